section
-- ===== PART A: goes FIRST, ahead of the names: the tables' words, and 'selects' of the private methods out of them =====
/-- a private method of a class that the tables say can be made, by its rows of tables_1 -/
def lw_okq (q : MethodName × Nat) : Prop := (q.1.cls ≠ "java/lang/invoke/MethodHandle" ∧ q.1.cls ≠ "java/lang/invoke/VarHandle") ∧ Cond.instantiable q.1.cls q.2 ∈ tables_1 ∧ Cond.privateMethod q.1 ∈ tables_1 ∧ Cond.instanceMethod q.1 ∈ tables_1
theorem lw_p0 : lw_okq (⟨"LifecycleEngine$Tree", "addNode", "(II)I"⟩, 9) := ⟨⟨by decide +kernel, by decide +kernel⟩, List.mem_of_getElem? (i := 19) (by decide +kernel), List.mem_of_getElem? (i := 222) (by decide +kernel), List.mem_of_getElem? (i := 223) (by decide +kernel)⟩
theorem lw_p1 : lw_okq (⟨"LifecycleEngine$Choice", "gatherTags", "()V"⟩, 4) := ⟨⟨by decide +kernel, by decide +kernel⟩, List.mem_of_getElem? (i := 74) (by decide +kernel), List.mem_of_getElem? (i := 284) (by decide +kernel), List.mem_of_getElem? (i := 285) (by decide +kernel)⟩
theorem lw_p2 : lw_okq (⟨"LifecycleEngine$Choice", "chooseContainers", "()V"⟩, 4) := ⟨⟨by decide +kernel, by decide +kernel⟩, List.mem_of_getElem? (i := 74) (by decide +kernel), List.mem_of_getElem? (i := 304) (by decide +kernel), List.mem_of_getElem? (i := 305) (by decide +kernel)⟩
theorem lw_p3 : lw_okq (⟨"LifecycleEngine$Runner", "isBroken", "()Z"⟩, 11) := ⟨⟨by decide +kernel, by decide +kernel⟩, List.mem_of_getElem? (i := 121) (by decide +kernel), List.mem_of_getElem? (i := 329) (by decide +kernel), List.mem_of_getElem? (i := 330) (by decide +kernel)⟩
theorem lw_p4 : lw_okq (⟨"LifecycleEngine$Journal", "writeEvent", "(IIII)V"⟩, 7) := ⟨⟨by decide +kernel, by decide +kernel⟩, List.mem_of_getElem? (i := 93) (by decide +kernel), List.mem_of_getElem? (i := 341) (by decide +kernel), List.mem_of_getElem? (i := 342) (by decide +kernel)⟩
theorem lw_p5 : lw_okq (⟨"LifecycleEngine$Runner", "doContainer", "(II)V"⟩, 11) := ⟨⟨by decide +kernel, by decide +kernel⟩, List.mem_of_getElem? (i := 121) (by decide +kernel), List.mem_of_getElem? (i := 346) (by decide +kernel), List.mem_of_getElem? (i := 347) (by decide +kernel)⟩
theorem lw_p6 : lw_okq (⟨"LifecycleEngine$Runner", "makeInstance", "(I)V"⟩, 11) := ⟨⟨by decide +kernel, by decide +kernel⟩, List.mem_of_getElem? (i := 121) (by decide +kernel), List.mem_of_getElem? (i := 358) (by decide +kernel), List.mem_of_getElem? (i := 359) (by decide +kernel)⟩
theorem lw_p7 : lw_okq (⟨"LifecycleEngine$Runner", "callIfThere", "(IILLifecycleEngine$Troubles;)V"⟩, 11) := ⟨⟨by decide +kernel, by decide +kernel⟩, List.mem_of_getElem? (i := 121) (by decide +kernel), List.mem_of_getElem? (i := 366) (by decide +kernel), List.mem_of_getElem? (i := 367) (by decide +kernel)⟩
theorem lw_p8 : lw_okq (⟨"LifecycleEngine$Runner", "doChildren", "(II)V"⟩, 11) := ⟨⟨by decide +kernel, by decide +kernel⟩, List.mem_of_getElem? (i := 121) (by decide +kernel), List.mem_of_getElem? (i := 396) (by decide +kernel), List.mem_of_getElem? (i := 397) (by decide +kernel)⟩
theorem lw_p9 : lw_okq (⟨"LifecycleEngine$Tree", "rankOf", "(I)I"⟩, 9) := ⟨⟨by decide +kernel, by decide +kernel⟩, List.mem_of_getElem? (i := 19) (by decide +kernel), List.mem_of_getElem? (i := 404) (by decide +kernel), List.mem_of_getElem? (i := 405) (by decide +kernel)⟩
theorem lw_p10 : lw_okq (⟨"LifecycleEngine$Journal", "writeOutcome", "(LLifecycleEngine$Troubles;I)V"⟩, 7) := ⟨⟨by decide +kernel, by decide +kernel⟩, List.mem_of_getElem? (i := 93) (by decide +kernel), List.mem_of_getElem? (i := 414) (by decide +kernel), List.mem_of_getElem? (i := 415) (by decide +kernel)⟩
theorem lw_p11 : lw_okq (⟨"LifecycleEngine$Runner", "doTest", "(II)V"⟩, 11) := ⟨⟨by decide +kernel, by decide +kernel⟩, List.mem_of_getElem? (i := 121) (by decide +kernel), List.mem_of_getElem? (i := 435) (by decide +kernel), List.mem_of_getElem? (i := 436) (by decide +kernel)⟩
theorem lw_p12 : lw_okq (⟨"LifecycleEngine$Runner", "doRound", "(IILLifecycleEngine$Troubles;)V"⟩, 11) := ⟨⟨by decide +kernel, by decide +kernel⟩, List.mem_of_getElem? (i := 121) (by decide +kernel), List.mem_of_getElem? (i := 443) (by decide +kernel), List.mem_of_getElem? (i := 444) (by decide +kernel)⟩
theorem lw_p13 : lw_okq (⟨"LifecycleEngine$Runner", "makeRoundInstances", "(I)V"⟩, 11) := ⟨⟨by decide +kernel, by decide +kernel⟩, List.mem_of_getElem? (i := 121) (by decide +kernel), List.mem_of_getElem? (i := 453) (by decide +kernel), List.mem_of_getElem? (i := 454) (by decide +kernel)⟩
theorem lw_p14 : lw_okq (⟨"LifecycleEngine$Runner", "openEach", "(ILLifecycleEngine$Troubles;)I"⟩, 11) := ⟨⟨by decide +kernel, by decide +kernel⟩, List.mem_of_getElem? (i := 121) (by decide +kernel), List.mem_of_getElem? (i := 457) (by decide +kernel), List.mem_of_getElem? (i := 458) (by decide +kernel)⟩
theorem lw_p15 : lw_okq (⟨"LifecycleEngine$Runner", "closeEach", "(ILLifecycleEngine$Troubles;)V"⟩, 11) := ⟨⟨by decide +kernel, by decide +kernel⟩, List.mem_of_getElem? (i := 121) (by decide +kernel), List.mem_of_getElem? (i := 461) (by decide +kernel), List.mem_of_getElem? (i := 462) (by decide +kernel)⟩
def lw_privs_1 : List (MethodName × Nat) := [(⟨"LifecycleEngine$Tree", "addNode", "(II)I"⟩, 9), (⟨"LifecycleEngine$Choice", "gatherTags", "()V"⟩, 4), (⟨"LifecycleEngine$Choice", "chooseContainers", "()V"⟩, 4), (⟨"LifecycleEngine$Runner", "isBroken", "()Z"⟩, 11), (⟨"LifecycleEngine$Journal", "writeEvent", "(IIII)V"⟩, 7), (⟨"LifecycleEngine$Runner", "doContainer", "(II)V"⟩, 11), (⟨"LifecycleEngine$Runner", "makeInstance", "(I)V"⟩, 11), (⟨"LifecycleEngine$Runner", "callIfThere", "(IILLifecycleEngine$Troubles;)V"⟩, 11), (⟨"LifecycleEngine$Runner", "doChildren", "(II)V"⟩, 11), (⟨"LifecycleEngine$Tree", "rankOf", "(I)I"⟩, 9), (⟨"LifecycleEngine$Journal", "writeOutcome", "(LLifecycleEngine$Troubles;I)V"⟩, 7), (⟨"LifecycleEngine$Runner", "doTest", "(II)V"⟩, 11), (⟨"LifecycleEngine$Runner", "doRound", "(IILLifecycleEngine$Troubles;)V"⟩, 11), (⟨"LifecycleEngine$Runner", "makeRoundInstances", "(I)V"⟩, 11), (⟨"LifecycleEngine$Runner", "openEach", "(ILLifecycleEngine$Troubles;)I"⟩, 11), (⟨"LifecycleEngine$Runner", "closeEach", "(ILLifecycleEngine$Troubles;)V"⟩, 11)]
theorem lw_r1 : ∀ q ∈ lw_privs_1, lw_okq q := List.forall_mem_cons.mpr ⟨lw_p0, List.forall_mem_cons.mpr ⟨lw_p1, List.forall_mem_cons.mpr ⟨lw_p2, List.forall_mem_cons.mpr ⟨lw_p3, List.forall_mem_cons.mpr ⟨lw_p4, List.forall_mem_cons.mpr ⟨lw_p5, List.forall_mem_cons.mpr ⟨lw_p6, List.forall_mem_cons.mpr ⟨lw_p7, List.forall_mem_cons.mpr ⟨lw_p8, List.forall_mem_cons.mpr ⟨lw_p9, List.forall_mem_cons.mpr ⟨lw_p10, List.forall_mem_cons.mpr ⟨lw_p11, List.forall_mem_cons.mpr ⟨lw_p12, List.forall_mem_cons.mpr ⟨lw_p13, List.forall_mem_cons.mpr ⟨lw_p14, List.forall_mem_cons.mpr ⟨lw_p15, fun _ h => absurd h List.not_mem_nil⟩⟩⟩⟩⟩⟩⟩⟩⟩⟩⟩⟩⟩⟩⟩⟩
theorem lw_p16 : lw_okq (⟨"LifecycleEngine$Journal", "isKept", "(I)Z"⟩, 7) := ⟨⟨by decide +kernel, by decide +kernel⟩, List.mem_of_getElem? (i := 93) (by decide +kernel), List.mem_of_getElem? (i := 481) (by decide +kernel), List.mem_of_getElem? (i := 482) (by decide +kernel)⟩
theorem lw_p17 : lw_okq (⟨"LifecycleEngineModel", "isContainer", "(I)Z"⟩, 34) := ⟨⟨by decide +kernel, by decide +kernel⟩, List.mem_of_getElem? (i := 530) (by decide +kernel), List.mem_of_getElem? (i := 643) (by decide +kernel), List.mem_of_getElem? (i := 644) (by decide +kernel)⟩
theorem lw_p18 : lw_okq (⟨"LifecycleEngineModel", "isNode", "(I)Z"⟩, 34) := ⟨⟨by decide +kernel, by decide +kernel⟩, List.mem_of_getElem? (i := 530) (by decide +kernel), List.mem_of_getElem? (i := 647) (by decide +kernel), List.mem_of_getElem? (i := 648) (by decide +kernel)⟩
theorem lw_p19 : lw_okq (⟨"LifecycleEngineModel", "depth", "(I)I"⟩, 34) := ⟨⟨by decide +kernel, by decide +kernel⟩, List.mem_of_getElem? (i := 530) (by decide +kernel), List.mem_of_getElem? (i := 651) (by decide +kernel), List.mem_of_getElem? (i := 652) (by decide +kernel)⟩
theorem lw_p20 : lw_okq (⟨"LifecycleEngineModel", "add", "(IIIIZ)I"⟩, 34) := ⟨⟨by decide +kernel, by decide +kernel⟩, List.mem_of_getElem? (i := 530) (by decide +kernel), List.mem_of_getElem? (i := 655) (by decide +kernel), List.mem_of_getElem? (i := 656) (by decide +kernel)⟩
theorem lw_p21 : lw_okq (⟨"LifecycleEngineModel", "choose", "(II)V"⟩, 34) := ⟨⟨by decide +kernel, by decide +kernel⟩, List.mem_of_getElem? (i := 530) (by decide +kernel), List.mem_of_getElem? (i := 679) (by decide +kernel), List.mem_of_getElem? (i := 680) (by decide +kernel)⟩
theorem lw_p22 : lw_okq (⟨"LifecycleEngineModel", "doNode", "(I)V"⟩, 34) := ⟨⟨by decide +kernel, by decide +kernel⟩, List.mem_of_getElem? (i := 530) (by decide +kernel), List.mem_of_getElem? (i := 683) (by decide +kernel), List.mem_of_getElem? (i := 684) (by decide +kernel)⟩
theorem lw_p23 : lw_okq (⟨"LifecycleEngineModel", "broken", "()Z"⟩, 34) := ⟨⟨by decide +kernel, by decide +kernel⟩, List.mem_of_getElem? (i := 530) (by decide +kernel), List.mem_of_getElem? (i := 687) (by decide +kernel), List.mem_of_getElem? (i := 688) (by decide +kernel)⟩
theorem lw_p24 : lw_okq (⟨"LifecycleEngineModel", "note", "(III)V"⟩, 34) := ⟨⟨by decide +kernel, by decide +kernel⟩, List.mem_of_getElem? (i := 530) (by decide +kernel), List.mem_of_getElem? (i := 691) (by decide +kernel), List.mem_of_getElem? (i := 692) (by decide +kernel)⟩
theorem lw_p25 : lw_okq (⟨"LifecycleEngineModel", "enter", "(I)V"⟩, 34) := ⟨⟨by decide +kernel, by decide +kernel⟩, List.mem_of_getElem? (i := 530) (by decide +kernel), List.mem_of_getElem? (i := 695) (by decide +kernel), List.mem_of_getElem? (i := 696) (by decide +kernel)⟩
theorem lw_p26 : lw_okq (⟨"LifecycleEngineModel", "call", "(III)V"⟩, 34) := ⟨⟨by decide +kernel, by decide +kernel⟩, List.mem_of_getElem? (i := 530) (by decide +kernel), List.mem_of_getElem? (i := 699) (by decide +kernel), List.mem_of_getElem? (i := 700) (by decide +kernel)⟩
theorem lw_p27 : lw_okq (⟨"LifecycleEngineModel", "gather", "(IIZ)V"⟩, 34) := ⟨⟨by decide +kernel, by decide +kernel⟩, List.mem_of_getElem? (i := 530) (by decide +kernel), List.mem_of_getElem? (i := 703) (by decide +kernel), List.mem_of_getElem? (i := 704) (by decide +kernel)⟩
theorem lw_p28 : lw_okq (⟨"LifecycleEngineModel", "round", "(II)V"⟩, 34) := ⟨⟨by decide +kernel, by decide +kernel⟩, List.mem_of_getElem? (i := 530) (by decide +kernel), List.mem_of_getElem? (i := 707) (by decide +kernel), List.mem_of_getElem? (i := 708) (by decide +kernel)⟩
theorem lw_p29 : lw_okq (⟨"LifecycleEngineModel", "finish", "(IIII)V"⟩, 34) := ⟨⟨by decide +kernel, by decide +kernel⟩, List.mem_of_getElem? (i := 530) (by decide +kernel), List.mem_of_getElem? (i := 711) (by decide +kernel), List.mem_of_getElem? (i := 712) (by decide +kernel)⟩
theorem lw_p30 : lw_okq (⟨"LifecycleEngineModel", "status", "(I)I"⟩, 34) := ⟨⟨by decide +kernel, by decide +kernel⟩, List.mem_of_getElem? (i := 530) (by decide +kernel), List.mem_of_getElem? (i := 715) (by decide +kernel), List.mem_of_getElem? (i := 716) (by decide +kernel)⟩
theorem lw_p31 : lw_okq (⟨"LifecycleEngineModel", "nextChild", "()I"⟩, 34) := ⟨⟨by decide +kernel, by decide +kernel⟩, List.mem_of_getElem? (i := 530) (by decide +kernel), List.mem_of_getElem? (i := 719) (by decide +kernel), List.mem_of_getElem? (i := 720) (by decide +kernel)⟩
def lw_privs_2 : List (MethodName × Nat) := [(⟨"LifecycleEngine$Journal", "isKept", "(I)Z"⟩, 7), (⟨"LifecycleEngineModel", "isContainer", "(I)Z"⟩, 34), (⟨"LifecycleEngineModel", "isNode", "(I)Z"⟩, 34), (⟨"LifecycleEngineModel", "depth", "(I)I"⟩, 34), (⟨"LifecycleEngineModel", "add", "(IIIIZ)I"⟩, 34), (⟨"LifecycleEngineModel", "choose", "(II)V"⟩, 34), (⟨"LifecycleEngineModel", "doNode", "(I)V"⟩, 34), (⟨"LifecycleEngineModel", "broken", "()Z"⟩, 34), (⟨"LifecycleEngineModel", "note", "(III)V"⟩, 34), (⟨"LifecycleEngineModel", "enter", "(I)V"⟩, 34), (⟨"LifecycleEngineModel", "call", "(III)V"⟩, 34), (⟨"LifecycleEngineModel", "gather", "(IIZ)V"⟩, 34), (⟨"LifecycleEngineModel", "round", "(II)V"⟩, 34), (⟨"LifecycleEngineModel", "finish", "(IIII)V"⟩, 34), (⟨"LifecycleEngineModel", "status", "(I)I"⟩, 34), (⟨"LifecycleEngineModel", "nextChild", "()I"⟩, 34)]
theorem lw_r2 : ∀ q ∈ lw_privs_2, lw_okq q := List.forall_mem_cons.mpr ⟨lw_p16, List.forall_mem_cons.mpr ⟨lw_p17, List.forall_mem_cons.mpr ⟨lw_p18, List.forall_mem_cons.mpr ⟨lw_p19, List.forall_mem_cons.mpr ⟨lw_p20, List.forall_mem_cons.mpr ⟨lw_p21, List.forall_mem_cons.mpr ⟨lw_p22, List.forall_mem_cons.mpr ⟨lw_p23, List.forall_mem_cons.mpr ⟨lw_p24, List.forall_mem_cons.mpr ⟨lw_p25, List.forall_mem_cons.mpr ⟨lw_p26, List.forall_mem_cons.mpr ⟨lw_p27, List.forall_mem_cons.mpr ⟨lw_p28, List.forall_mem_cons.mpr ⟨lw_p29, List.forall_mem_cons.mpr ⟨lw_p30, List.forall_mem_cons.mpr ⟨lw_p31, fun _ h => absurd h List.not_mem_nil⟩⟩⟩⟩⟩⟩⟩⟩⟩⟩⟩⟩⟩⟩⟩⟩
theorem lw_p32 : lw_okq (⟨"LifecycleEngineModel", "before", "(II)Z"⟩, 34) := ⟨⟨by decide +kernel, by decide +kernel⟩, List.mem_of_getElem? (i := 530) (by decide +kernel), List.mem_of_getElem? (i := 723) (by decide +kernel), List.mem_of_getElem? (i := 724) (by decide +kernel)⟩
theorem lw_p33 : lw_okq (⟨"LifecycleEngineModel", "leave", "()V"⟩, 34) := ⟨⟨by decide +kernel, by decide +kernel⟩, List.mem_of_getElem? (i := 530) (by decide +kernel), List.mem_of_getElem? (i := 727) (by decide +kernel), List.mem_of_getElem? (i := 728) (by decide +kernel)⟩
def lw_privs_3 : List (MethodName × Nat) := [(⟨"LifecycleEngineModel", "before", "(II)Z"⟩, 34), (⟨"LifecycleEngineModel", "leave", "()V"⟩, 34)]
theorem lw_r3 : ∀ q ∈ lw_privs_3, lw_okq q := List.forall_mem_cons.mpr ⟨lw_p32, List.forall_mem_cons.mpr ⟨lw_p33, fun _ h => absurd h List.not_mem_nil⟩⟩
def lw_privs : List (MethodName × Nat) := lw_privs_1 ++ (lw_privs_2 ++ (lw_privs_3))
def lw_tbl : List Cond := k2_sels lw_privs ++ tables_1
theorem lw_privs_ok : ∀ q ∈ lw_privs, lw_okq q := by
  show ∀ q ∈ lw_privs_1 ++ (lw_privs_2 ++ (lw_privs_3)), lw_okq q
  exact List.forall_mem_append.mpr ⟨lw_r1, List.forall_mem_append.mpr ⟨lw_r2, lw_r3⟩⟩
def Wl : List Cond := lw_tbl.filter goodWord
theorem mw {w : Cond} (h : w ∈ lw_tbl) (g : goodWord w = true) : w ∈ Wl := List.mem_filter.mpr ⟨h, g⟩
theorem lw_good : GoodIn Wl Wl := fun w hw => ⟨hw, good_of_word (List.mem_filter.mp hw).2⟩
end
section
def R_law : String := "LifecycleEngineLaw"
def R_Choice : String := "LifecycleEngine$Choice"
def F_Choice : u_T := fun k => match k with
  | 0 => ("LifecycleEngine$Choice", "tree", "LLifecycleEngine$Tree;", true)
  | 1 => ("LifecycleEngine$Choice", "allTags", "[I", true)
  | 2 => ("LifecycleEngine$Choice", "chosen", "[Z", true)
  | _ => ("LifecycleEngine$Choice", "chosenTests", "I", false)
def t_Choice : Nat → FieldType := fun k => match k with
  | 0 => .object "LifecycleEngine$Tree"
  | 1 => .array .int
  | 2 => .array .boolean
  | _ => .int
abbrev w_Choice : List Cond := u_ws R_Choice F_Choice 4
theorem n_Choice : ∀ a, a < 4 → ∀ b, b < 4 → a ≠ b → (F_Choice a).2.1 ≠ (F_Choice b).2.1 := by decide +kernel
theorem t_Choice_ok : ∀ k, k < 4 → parseFieldDescriptor (F_Choice k).2.2.1 = some (t_Choice k) := by decide +kernel
def R_Journal : String := "LifecycleEngine$Journal"
def F_Journal : u_T := fun k => match k with
  | 0 => ("LifecycleEngine$Journal", "fields", "[I", true)
  | 1 => ("LifecycleEngine$Journal", "codes", "[I", true)
  | 2 => ("LifecycleEngine$Journal", "roundsByStatus", "[I", true)
  | 3 => ("LifecycleEngine$Journal", "events", "I", false)
  | 4 => ("LifecycleEngine$Journal", "skips", "I", false)
  | 5 => ("LifecycleEngine$Journal", "troubledContainers", "I", false)
  | _ => ("LifecycleEngine$Journal", "failure", "Z", false)
def t_Journal : Nat → FieldType := fun k => match k with
  | 0 => .array .int
  | 1 => .array .int
  | 2 => .array .int
  | 3 => .int
  | 4 => .int
  | 5 => .int
  | _ => .boolean
abbrev w_Journal : List Cond := u_ws R_Journal F_Journal 7
theorem n_Journal : ∀ a, a < 7 → ∀ b, b < 7 → a ≠ b → (F_Journal a).2.1 ≠ (F_Journal b).2.1 := by decide +kernel
theorem t_Journal_ok : ∀ k, k < 7 → parseFieldDescriptor (F_Journal k).2.2.1 = some (t_Journal k) := by decide +kernel
def R_Methods : String := "LifecycleEngine$Methods"
def F_Methods : u_T := fun k => match k with
  | 0 => ("LifecycleEngine$Methods", "there", "[Z", true)
  | 1 => ("LifecycleEngine$Methods", "results", "[I", true)
  | 2 => ("LifecycleEngine$Methods", "codes", "[I", true)
  | _ => ("LifecycleEngine$Methods", "lengths", "[I", true)
def t_Methods : Nat → FieldType := fun k => match k with
  | 0 => .array .boolean
  | 1 => .array .int
  | 2 => .array .int
  | _ => .array .int
abbrev w_Methods : List Cond := u_ws R_Methods F_Methods 4
theorem n_Methods : ∀ a, a < 4 → ∀ b, b < 4 → a ≠ b → (F_Methods a).2.1 ≠ (F_Methods b).2.1 := by decide +kernel
theorem t_Methods_ok : ∀ k, k < 4 → parseFieldDescriptor (F_Methods k).2.2.1 = some (t_Methods k) := by decide +kernel
def R_Runner : String := "LifecycleEngine$Runner"
def F_Runner : u_T := fun k => match k with
  | 0 => ("LifecycleEngine$Runner", "tree", "LLifecycleEngine$Tree;", true)
  | 1 => ("LifecycleEngine$Runner", "methods", "LLifecycleEngine$Methods;", true)
  | 2 => ("LifecycleEngine$Runner", "choice", "LLifecycleEngine$Choice;", true)
  | 3 => ("LifecycleEngine$Runner", "journal", "LLifecycleEngine$Journal;", true)
  | 4 => ("LifecycleEngine$Runner", "lists", "[LLifecycleEngine$Troubles;", true)
  | 5 => ("LifecycleEngine$Runner", "path", "[I", true)
  | 6 => ("LifecycleEngine$Runner", "instances", "[I", true)
  | 7 => ("LifecycleEngine$Runner", "instancesMade", "I", false)
  | 8 => ("LifecycleEngine$Runner", "time", "I", false)
  | 9 => ("LifecycleEngine$Runner", "calls", "I", false)
  | _ => ("LifecycleEngine$Runner", "breakAt", "I", false)
def t_Runner : Nat → FieldType := fun k => match k with
  | 0 => .object "LifecycleEngine$Tree"
  | 1 => .object "LifecycleEngine$Methods"
  | 2 => .object "LifecycleEngine$Choice"
  | 3 => .object "LifecycleEngine$Journal"
  | 4 => .array (.object "LifecycleEngine$Troubles")
  | 5 => .array .int
  | 6 => .array .int
  | 7 => .int
  | 8 => .int
  | 9 => .int
  | _ => .int
abbrev w_Runner : List Cond := u_ws R_Runner F_Runner 11
theorem n_Runner : ∀ a, a < 11 → ∀ b, b < 11 → a ≠ b → (F_Runner a).2.1 ≠ (F_Runner b).2.1 := by decide +kernel
theorem t_Runner_ok : ∀ k, k < 11 → parseFieldDescriptor (F_Runner k).2.2.1 = some (t_Runner k) := by decide +kernel
def R_Tree : String := "LifecycleEngine$Tree"
def F_Tree : u_T := fun k => match k with
  | 0 => ("LifecycleEngine$Tree", "parents", "[I", true)
  | 1 => ("LifecycleEngine$Tree", "depths", "[I", true)
  | 2 => ("LifecycleEngine$Tree", "orders", "[I", true)
  | 3 => ("LifecycleEngine$Tree", "tags", "[I", true)
  | 4 => ("LifecycleEngine$Tree", "disabled", "[Z", true)
  | 5 => ("LifecycleEngine$Tree", "shared", "[Z", true)
  | 6 => ("LifecycleEngine$Tree", "rounds", "[I", true)
  | 7 => ("LifecycleEngine$Tree", "deadlines", "[I", true)
  | _ => ("LifecycleEngine$Tree", "size", "I", false)
def t_Tree : Nat → FieldType := fun k => match k with
  | 0 => .array .int
  | 1 => .array .int
  | 2 => .array .int
  | 3 => .array .int
  | 4 => .array .boolean
  | 5 => .array .boolean
  | 6 => .array .int
  | 7 => .array .int
  | _ => .int
abbrev w_Tree : List Cond := u_ws R_Tree F_Tree 9
theorem n_Tree : ∀ a, a < 9 → ∀ b, b < 9 → a ≠ b → (F_Tree a).2.1 ≠ (F_Tree b).2.1 := by decide +kernel
theorem t_Tree_ok : ∀ k, k < 9 → parseFieldDescriptor (F_Tree k).2.2.1 = some (t_Tree k) := by decide +kernel
def R_Troubles : String := "LifecycleEngine$Troubles"
def F_Troubles : u_T := fun k => match k with
  | 0 => ("LifecycleEngine$Troubles", "codes", "[I", true)
  | 1 => ("LifecycleEngine$Troubles", "size", "I", false)
  | _ => ("LifecycleEngine$Troubles", "firstGaveUp", "Z", false)
def t_Troubles : Nat → FieldType := fun k => match k with
  | 0 => .array .int
  | 1 => .int
  | _ => .boolean
abbrev w_Troubles : List Cond := u_ws R_Troubles F_Troubles 3
theorem n_Troubles : ∀ a, a < 3 → ∀ b, b < 3 → a ≠ b → (F_Troubles a).2.1 ≠ (F_Troubles b).2.1 := by decide +kernel
theorem t_Troubles_ok : ∀ k, k < 3 → parseFieldDescriptor (F_Troubles k).2.2.1 = some (t_Troubles k) := by decide +kernel
def R_Engine : String := "LifecycleEngine"
def F_Engine : u_T := fun k => match k with
  | 0 => ("LifecycleEngine", "tree", "LLifecycleEngine$Tree;", true)
  | 1 => ("LifecycleEngine", "methods", "LLifecycleEngine$Methods;", true)
  | 2 => ("LifecycleEngine", "choice", "LLifecycleEngine$Choice;", true)
  | 3 => ("LifecycleEngine", "journal", "LLifecycleEngine$Journal;", true)
  | _ => ("LifecycleEngine", "runner", "LLifecycleEngine$Runner;", true)
def t_Engine : Nat → FieldType := fun k => match k with
  | 0 => .object "LifecycleEngine$Tree"
  | 1 => .object "LifecycleEngine$Methods"
  | 2 => .object "LifecycleEngine$Choice"
  | 3 => .object "LifecycleEngine$Journal"
  | _ => .object "LifecycleEngine$Runner"
abbrev w_Engine : List Cond := u_ws R_Engine F_Engine 5
theorem n_Engine : ∀ a, a < 5 → ∀ b, b < 5 → a ≠ b → (F_Engine a).2.1 ≠ (F_Engine b).2.1 := by decide +kernel
theorem t_Engine_ok : ∀ k, k < 5 → parseFieldDescriptor (F_Engine k).2.2.1 = some (t_Engine k) := by decide +kernel
def R_Model : String := "LifecycleEngineModel"
def F_Model : u_T := fun k => match k with
  | 0 => ("LifecycleEngineModel", "parent", "[I", true)
  | 1 => ("LifecycleEngineModel", "order", "[I", true)
  | 2 => ("LifecycleEngineModel", "rounds", "[I", true)
  | 3 => ("LifecycleEngineModel", "deadline", "[I", true)
  | 4 => ("LifecycleEngineModel", "tags", "[I", true)
  | 5 => ("LifecycleEngineModel", "shared", "[Z", true)
  | 6 => ("LifecycleEngineModel", "disabled", "[Z", true)
  | 7 => ("LifecycleEngineModel", "chosen", "[Z", true)
  | 8 => ("LifecycleEngineModel", "there", "[Z", true)
  | 9 => ("LifecycleEngineModel", "result", "[I", true)
  | 10 => ("LifecycleEngineModel", "code", "[I", true)
  | 11 => ("LifecycleEngineModel", "lasts", "[I", true)
  | 12 => ("LifecycleEngineModel", "nodes", "I", false)
  | 13 => ("LifecycleEngineModel", "level", "[I", true)
  | 14 => ("LifecycleEngineModel", "lastChild", "[I", true)
  | 15 => ("LifecycleEngineModel", "instance", "[I", true)
  | 16 => ("LifecycleEngineModel", "levels", "I", false)
  | 17 => ("LifecycleEngineModel", "code2", "[I", true)
  | 18 => ("LifecycleEngineModel", "gaveUp", "[I", true)
  | 19 => ("LifecycleEngineModel", "troubles", "[I", true)
  | 20 => ("LifecycleEngineModel", "event", "[I", true)
  | 21 => ("LifecycleEngineModel", "eventCode", "[I", true)
  | 22 => ("LifecycleEngineModel", "events", "I", false)
  | 23 => ("LifecycleEngineModel", "time", "I", false)
  | 24 => ("LifecycleEngineModel", "calls", "I", false)
  | 25 => ("LifecycleEngineModel", "made", "I", false)
  | 26 => ("LifecycleEngineModel", "success", "I", false)
  | 27 => ("LifecycleEngineModel", "failed", "I", false)
  | 28 => ("LifecycleEngineModel", "aborted", "I", false)
  | 29 => ("LifecycleEngineModel", "skipped", "I", false)
  | 30 => ("LifecycleEngineModel", "badContainers", "I", false)
  | 31 => ("LifecycleEngineModel", "tests", "I", false)
  | 32 => ("LifecycleEngineModel", "stop", "I", false)
  | _ => ("LifecycleEngineModel", "anyFailed", "Z", false)
def t_Model : Nat → FieldType := fun k => match k with
  | 0 => .array .int
  | 1 => .array .int
  | 2 => .array .int
  | 3 => .array .int
  | 4 => .array .int
  | 5 => .array .boolean
  | 6 => .array .boolean
  | 7 => .array .boolean
  | 8 => .array .boolean
  | 9 => .array .int
  | 10 => .array .int
  | 11 => .array .int
  | 12 => .int
  | 13 => .array .int
  | 14 => .array .int
  | 15 => .array .int
  | 16 => .int
  | 17 => .array .int
  | 18 => .array .int
  | 19 => .array .int
  | 20 => .array .int
  | 21 => .array .int
  | 22 => .int
  | 23 => .int
  | 24 => .int
  | 25 => .int
  | 26 => .int
  | 27 => .int
  | 28 => .int
  | 29 => .int
  | 30 => .int
  | 31 => .int
  | 32 => .int
  | _ => .boolean
abbrev w_Model : List Cond := u_ws R_Model F_Model 34
theorem n_Model : ∀ a, a < 34 → ∀ b, b < 34 → a ≠ b → (F_Model a).2.1 ≠ (F_Model b).2.1 := by decide +kernel
theorem t_Model_ok : ∀ k, k < 34 → parseFieldDescriptor (F_Model k).2.2.1 = some (t_Model k) := by decide +kernel
abbrev vwCl : List vw_C := [(R_Choice, F_Choice, 4), (R_Journal, F_Journal, 7), (R_Methods, F_Methods, 4), (R_Runner, F_Runner, 11), (R_Tree, F_Tree, 9), (R_Troubles, F_Troubles, 3), (R_Engine, F_Engine, 5), (R_Model, F_Model, 34)]
def R_Math : String := "java/lang/Math"
abbrev b_Engine_init : ByteArray := prog_1_method_1_code
def y_Engine_init : MethodName := ⟨R_Engine, "<init>", "()V"⟩
abbrev b_Tree_init : ByteArray := prog_6_method_1_code
def y_Tree_init : MethodName := ⟨R_Tree, "<init>", "()V"⟩
abbrev b_Methods_init : ByteArray := prog_4_method_1_code
def y_Methods_init : MethodName := ⟨R_Methods, "<init>", "()V"⟩
abbrev b_Choice_init : ByteArray := prog_2_method_1_code
def y_Choice_init : MethodName := ⟨R_Choice, "<init>", "(LLifecycleEngine$Tree;)V"⟩
abbrev b_Journal_init : ByteArray := prog_3_method_1_code
def y_Journal_init : MethodName := ⟨R_Journal, "<init>", "()V"⟩
abbrev b_Runner_init : ByteArray := prog_5_method_1_code
def y_Runner_init : MethodName := ⟨R_Runner, "<init>", "(LLifecycleEngine$Tree;LLifecycleEngine$Methods;LLifecycleEngine$Choice;LLifecycleEngine$Journal;)V"⟩
abbrev b_Troubles_init : ByteArray := prog_7_method_1_code
def y_Troubles_init : MethodName := ⟨R_Troubles, "<init>", "()V"⟩
abbrev b_Engine_container : ByteArray := prog_1_method_2_code
def y_Engine_container : MethodName := ⟨R_Engine, "container", "(IIZ)I"⟩
abbrev b_Tree_isContainer : ByteArray := prog_6_method_5_code
def y_Tree_isContainer : MethodName := ⟨R_Tree, "isContainer", "(I)Z"⟩
abbrev b_Tree_isNode : ByteArray := prog_6_method_4_code
def y_Tree_isNode : MethodName := ⟨R_Tree, "isNode", "(I)Z"⟩
abbrev b_Engine_isWithin : ByteArray := prog_1_method_11_code
def y_Engine_isWithin : MethodName := ⟨R_Engine, "isWithin", "(III)Z"⟩
abbrev b_Tree_depthOf : ByteArray := prog_6_method_12_code
def y_Tree_depthOf : MethodName := ⟨R_Tree, "depthOf", "(I)I"⟩
abbrev b_Tree_isFull : ByteArray := prog_6_method_3_code
def y_Tree_isFull : MethodName := ⟨R_Tree, "isFull", "()Z"⟩
abbrev b_Tree_addContainer : ByteArray := prog_6_method_7_code
def y_Tree_addContainer : MethodName := ⟨R_Tree, "addContainer", "(IIZ)I"⟩
abbrev b_Tree_addNode : ByteArray := prog_6_method_9_code
def y_Tree_addNode : MethodName := ⟨R_Tree, "addNode", "(II)I"⟩
abbrev b_Engine_test : ByteArray := prog_1_method_3_code
def y_Engine_test : MethodName := ⟨R_Engine, "test", "(IIII)I"⟩
abbrev b_Tree_addTest : ByteArray := prog_6_method_8_code
def y_Tree_addTest : MethodName := ⟨R_Tree, "addTest", "(IIII)I"⟩
abbrev b_Methods_giveBodies : ByteArray := prog_4_method_3_code
def y_Methods_giveBodies : MethodName := ⟨R_Methods, "giveBodies", "(II)V"⟩
abbrev b_Methods_give : ByteArray := prog_4_method_4_code
def y_Methods_give : MethodName := ⟨R_Methods, "give", "(IIIII)V"⟩
abbrev b_Methods_placeOf : ByteArray := prog_4_method_2_code
def y_Methods_placeOf : MethodName := ⟨R_Methods, "placeOf", "(II)I"⟩
abbrev b_Engine_mark : ByteArray := prog_1_method_4_code
def y_Engine_mark : MethodName := ⟨R_Engine, "mark", "(IIZ)I"⟩
abbrev b_Tree_setMarks : ByteArray := prog_6_method_10_code
def y_Tree_setMarks : MethodName := ⟨R_Tree, "setMarks", "(IIZ)V"⟩
abbrev b_Engine_method : ByteArray := prog_1_method_5_code
def y_Engine_method : MethodName := ⟨R_Engine, "method", "(IIIII)I"⟩
abbrev b_Tree_mayHave : ByteArray := prog_6_method_6_code
def y_Tree_mayHave : MethodName := ⟨R_Tree, "mayHave", "(II)Z"⟩
abbrev b_Engine_without : ByteArray := prog_1_method_6_code
def y_Engine_without : MethodName := ⟨R_Engine, "without", "(II)I"⟩
abbrev b_Methods_isThere : ByteArray := prog_4_method_6_code
def y_Methods_isThere : MethodName := ⟨R_Methods, "isThere", "(I)Z"⟩
abbrev b_Methods_takeAt : ByteArray := prog_4_method_5_code
def y_Methods_takeAt : MethodName := ⟨R_Methods, "takeAt", "(I)V"⟩
abbrev b_Engine_run : ByteArray := prog_1_method_7_code
def y_Engine_run : MethodName := ⟨R_Engine, "run", "(III)I"⟩
abbrev b_Choice_choose : ByteArray := prog_2_method_2_code
def y_Choice_choose : MethodName := ⟨R_Choice, "choose", "(II)V"⟩
abbrev b_Choice_gatherTags : ByteArray := prog_2_method_3_code
def y_Choice_gatherTags : MethodName := ⟨R_Choice, "gatherTags", "()V"⟩
abbrev b_Tree_tagsOf : ByteArray := prog_6_method_13_code
def y_Tree_tagsOf : MethodName := ⟨R_Tree, "tagsOf", "(I)I"⟩
abbrev b_Tree_size : ByteArray := prog_6_method_2_code
def y_Tree_size : MethodName := ⟨R_Tree, "size", "()I"⟩
abbrev b_Tree_parentOf : ByteArray := prog_6_method_11_code
def y_Tree_parentOf : MethodName := ⟨R_Tree, "parentOf", "(I)I"⟩
abbrev b_Choice_suits : ByteArray := prog_2_method_5_code
def y_Choice_suits : MethodName := ⟨R_Choice, "suits", "(III)Z"⟩
abbrev b_Choice_chooseContainers : ByteArray := prog_2_method_4_code
def y_Choice_chooseContainers : MethodName := ⟨R_Choice, "chooseContainers", "()V"⟩
abbrev b_Journal_clear : ByteArray := prog_3_method_2_code
def y_Journal_clear : MethodName := ⟨R_Journal, "clear", "()V"⟩
abbrev b_Runner_reset : ByteArray := prog_5_method_2_code
def y_Runner_reset : MethodName := ⟨R_Runner, "reset", "(I)V"⟩
abbrev b_Runner_doNode : ByteArray := prog_5_method_3_code
def y_Runner_doNode : MethodName := ⟨R_Runner, "doNode", "(II)V"⟩
abbrev b_Choice_isChosen : ByteArray := prog_2_method_6_code
def y_Choice_isChosen : MethodName := ⟨R_Choice, "isChosen", "(I)Z"⟩
abbrev b_Tree_isDisabled : ByteArray := prog_6_method_14_code
def y_Tree_isDisabled : MethodName := ⟨R_Tree, "isDisabled", "(I)Z"⟩
abbrev b_Runner_isBroken : ByteArray := prog_5_method_4_code
def y_Runner_isBroken : MethodName := ⟨R_Runner, "isBroken", "()Z"⟩
abbrev b_Journal_roundsWith : ByteArray := prog_3_method_15_code
def y_Journal_roundsWith : MethodName := ⟨R_Journal, "roundsWith", "(I)I"⟩
abbrev b_Journal_writeSkipped : ByteArray := prog_3_method_4_code
def y_Journal_writeSkipped : MethodName := ⟨R_Journal, "writeSkipped", "(III)V"⟩
abbrev b_Journal_writeEvent : ByteArray := prog_3_method_7_code
def y_Journal_writeEvent : MethodName := ⟨R_Journal, "writeEvent", "(IIII)V"⟩
abbrev b_Runner_doContainer : ByteArray := prog_5_method_5_code
def y_Runner_doContainer : MethodName := ⟨R_Runner, "doContainer", "(II)V"⟩
abbrev b_Journal_writeStarted : ByteArray := prog_3_method_3_code
def y_Journal_writeStarted : MethodName := ⟨R_Journal, "writeStarted", "(III)V"⟩
abbrev b_Tree_isShared : ByteArray := prog_6_method_15_code
def y_Tree_isShared : MethodName := ⟨R_Tree, "isShared", "(I)Z"⟩
abbrev b_Runner_makeInstance : ByteArray := prog_5_method_12_code
def y_Runner_makeInstance : MethodName := ⟨R_Runner, "makeInstance", "(I)V"⟩
abbrev b_Troubles_clear : ByteArray := prog_7_method_2_code
def y_Troubles_clear : MethodName := ⟨R_Troubles, "clear", "()V"⟩
abbrev b_Runner_callIfThere : ByteArray := prog_5_method_13_code
def y_Runner_callIfThere : MethodName := ⟨R_Runner, "callIfThere", "(IILLifecycleEngine$Troubles;)V"⟩
abbrev b_Methods_lengthAt : ByteArray := prog_4_method_9_code
def y_Methods_lengthAt : MethodName := ⟨R_Methods, "lengthAt", "(I)I"⟩
abbrev b_Tree_deadlineOf : ByteArray := prog_6_method_17_code
def y_Tree_deadlineOf : MethodName := ⟨R_Tree, "deadlineOf", "(I)I"⟩
abbrev b_Troubles_join : ByteArray := prog_7_method_3_code
def y_Troubles_join : MethodName := ⟨R_Troubles, "join", "(IZ)V"⟩
abbrev b_Methods_resultAt : ByteArray := prog_4_method_7_code
def y_Methods_resultAt : MethodName := ⟨R_Methods, "resultAt", "(I)I"⟩
abbrev b_Methods_codeAt : ByteArray := prog_4_method_8_code
def y_Methods_codeAt : MethodName := ⟨R_Methods, "codeAt", "(I)I"⟩
abbrev b_Troubles_isEmpty : ByteArray := prog_7_method_4_code
def y_Troubles_isEmpty : MethodName := ⟨R_Troubles, "isEmpty", "()Z"⟩
abbrev b_Runner_doChildren : ByteArray := prog_5_method_6_code
def y_Runner_doChildren : MethodName := ⟨R_Runner, "doChildren", "(II)V"⟩
abbrev b_Tree_childAfter : ByteArray := prog_6_method_18_code
def y_Tree_childAfter : MethodName := ⟨R_Tree, "childAfter", "(II)I"⟩
abbrev b_Tree_rankOf : ByteArray := prog_6_method_19_code
def y_Tree_rankOf : MethodName := ⟨R_Tree, "rankOf", "(I)I"⟩
abbrev b_Journal_writeContainerFinished : ByteArray := prog_3_method_5_code
def y_Journal_writeContainerFinished : MethodName := ⟨R_Journal, "writeContainerFinished", "(IILLifecycleEngine$Troubles;I)V"⟩
abbrev b_Journal_writeOutcome : ByteArray := prog_3_method_8_code
def y_Journal_writeOutcome : MethodName := ⟨R_Journal, "writeOutcome", "(LLifecycleEngine$Troubles;I)V"⟩
abbrev b_Troubles_status : ByteArray := prog_7_method_5_code
def y_Troubles_status : MethodName := ⟨R_Troubles, "status", "()I"⟩
abbrev b_Troubles_firstCode : ByteArray := prog_7_method_6_code
def y_Troubles_firstCode : MethodName := ⟨R_Troubles, "firstCode", "()I"⟩
abbrev b_Troubles_sizeBehindFirst : ByteArray := prog_7_method_7_code
def y_Troubles_sizeBehindFirst : MethodName := ⟨R_Troubles, "sizeBehindFirst", "()I"⟩
abbrev b_Troubles_codeOrNone : ByteArray := prog_7_method_8_code
def y_Troubles_codeOrNone : MethodName := ⟨R_Troubles, "codeOrNone", "(I)I"⟩
abbrev b_Runner_doTest : ByteArray := prog_5_method_7_code
def y_Runner_doTest : MethodName := ⟨R_Runner, "doTest", "(II)V"⟩
abbrev b_Tree_roundsOf : ByteArray := prog_6_method_16_code
def y_Tree_roundsOf : MethodName := ⟨R_Tree, "roundsOf", "(I)I"⟩
abbrev b_Runner_doRound : ByteArray := prog_5_method_8_code
def y_Runner_doRound : MethodName := ⟨R_Runner, "doRound", "(IILLifecycleEngine$Troubles;)V"⟩
abbrev b_Tree_writePath : ByteArray := prog_6_method_20_code
def y_Tree_writePath : MethodName := ⟨R_Tree, "writePath", "(I[I)V"⟩
abbrev b_Runner_makeRoundInstances : ByteArray := prog_5_method_9_code
def y_Runner_makeRoundInstances : MethodName := ⟨R_Runner, "makeRoundInstances", "(I)V"⟩
abbrev b_Runner_openEach : ByteArray := prog_5_method_10_code
def y_Runner_openEach : MethodName := ⟨R_Runner, "openEach", "(ILLifecycleEngine$Troubles;)I"⟩
abbrev b_Runner_closeEach : ByteArray := prog_5_method_11_code
def y_Runner_closeEach : MethodName := ⟨R_Runner, "closeEach", "(ILLifecycleEngine$Troubles;)V"⟩
abbrev b_Journal_writeRoundFinished : ByteArray := prog_3_method_6_code
def y_Journal_writeRoundFinished : MethodName := ⟨R_Journal, "writeRoundFinished", "(IIILLifecycleEngine$Troubles;I)V"⟩
abbrev b_Journal_hasFailure : ByteArray := prog_3_method_16_code
def y_Journal_hasFailure : MethodName := ⟨R_Journal, "hasFailure", "()Z"⟩
abbrev b_Engine_event : ByteArray := prog_1_method_8_code
def y_Engine_event : MethodName := ⟨R_Engine, "event", "(II)I"⟩
abbrev b_Journal_fieldOf : ByteArray := prog_3_method_10_code
def y_Journal_fieldOf : MethodName := ⟨R_Journal, "fieldOf", "(II)I"⟩
abbrev b_Journal_isKept : ByteArray := prog_3_method_9_code
def y_Journal_isKept : MethodName := ⟨R_Journal, "isKept", "(I)Z"⟩
abbrev b_Math_min : ByteArray := prog_10_method_69_code
def y_Math_min : MethodName := ⟨R_Math, "min", "(II)I"⟩
abbrev b_Engine_trouble : ByteArray := prog_1_method_9_code
def y_Engine_trouble : MethodName := ⟨R_Engine, "trouble", "(II)I"⟩
abbrev b_Journal_codeOf : ByteArray := prog_3_method_11_code
def y_Journal_codeOf : MethodName := ⟨R_Journal, "codeOf", "(II)I"⟩
abbrev b_Engine_count : ByteArray := prog_1_method_10_code
def y_Engine_count : MethodName := ⟨R_Engine, "count", "(I)I"⟩
abbrev b_Journal_events : ByteArray := prog_3_method_12_code
def y_Journal_events : MethodName := ⟨R_Journal, "events", "()I"⟩
abbrev b_Journal_skips : ByteArray := prog_3_method_13_code
def y_Journal_skips : MethodName := ⟨R_Journal, "skips", "()I"⟩
abbrev b_Journal_troubledContainers : ByteArray := prog_3_method_14_code
def y_Journal_troubledContainers : MethodName := ⟨R_Journal, "troubledContainers", "()I"⟩
abbrev b_Runner_instancesMade : ByteArray := prog_5_method_14_code
def y_Runner_instancesMade : MethodName := ⟨R_Runner, "instancesMade", "()I"⟩
abbrev b_Runner_time : ByteArray := prog_5_method_15_code
def y_Runner_time : MethodName := ⟨R_Runner, "time", "()I"⟩
abbrev b_Runner_calls : ByteArray := prog_5_method_16_code
def y_Runner_calls : MethodName := ⟨R_Runner, "calls", "()I"⟩
abbrev b_Choice_chosenTests : ByteArray := prog_2_method_7_code
def y_Choice_chosenTests : MethodName := ⟨R_Choice, "chosenTests", "()I"⟩
abbrev b_Model_init : ByteArray := prog_9_method_1_code
def y_Model_init : MethodName := ⟨R_Model, "<init>", "()V"⟩
abbrev b_Model_container : ByteArray := prog_9_method_6_code
def y_Model_container : MethodName := ⟨R_Model, "container", "(IIZ)I"⟩
abbrev b_Model_isContainer : ByteArray := prog_9_method_3_code
def y_Model_isContainer : MethodName := ⟨R_Model, "isContainer", "(I)Z"⟩
abbrev b_Model_isNode : ByteArray := prog_9_method_2_code
def y_Model_isNode : MethodName := ⟨R_Model, "isNode", "(I)Z"⟩
abbrev b_Model_depth : ByteArray := prog_9_method_4_code
def y_Model_depth : MethodName := ⟨R_Model, "depth", "(I)I"⟩
abbrev b_Model_add : ByteArray := prog_9_method_5_code
def y_Model_add : MethodName := ⟨R_Model, "add", "(IIIIZ)I"⟩
abbrev b_Model_test : ByteArray := prog_9_method_7_code
def y_Model_test : MethodName := ⟨R_Model, "test", "(IIII)I"⟩
abbrev b_Model_mark : ByteArray := prog_9_method_8_code
def y_Model_mark : MethodName := ⟨R_Model, "mark", "(IIZ)I"⟩
abbrev b_Model_method : ByteArray := prog_9_method_9_code
def y_Model_method : MethodName := ⟨R_Model, "method", "(IIIII)I"⟩
abbrev b_Model_without : ByteArray := prog_9_method_10_code
def y_Model_without : MethodName := ⟨R_Model, "without", "(II)I"⟩
abbrev b_Model_run : ByteArray := prog_9_method_24_code
def y_Model_run : MethodName := ⟨R_Model, "run", "(III)I"⟩
abbrev b_Model_choose : ByteArray := prog_9_method_11_code
def y_Model_choose : MethodName := ⟨R_Model, "choose", "(II)V"⟩
abbrev b_Model_doNode : ByteArray := prog_9_method_21_code
def y_Model_doNode : MethodName := ⟨R_Model, "doNode", "(I)V"⟩
abbrev b_Model_broken : ByteArray := prog_9_method_17_code
def y_Model_broken : MethodName := ⟨R_Model, "broken", "()Z"⟩
abbrev b_Model_note : ByteArray := prog_9_method_14_code
def y_Model_note : MethodName := ⟨R_Model, "note", "(III)V"⟩
abbrev b_Model_enter : ByteArray := prog_9_method_19_code
def y_Model_enter : MethodName := ⟨R_Model, "enter", "(I)V"⟩
abbrev b_Model_call : ByteArray := prog_9_method_13_code
def y_Model_call : MethodName := ⟨R_Model, "call", "(III)V"⟩
abbrev b_Model_gather : ByteArray := prog_9_method_12_code
def y_Model_gather : MethodName := ⟨R_Model, "gather", "(IIZ)V"⟩
abbrev b_Model_round : ByteArray := prog_9_method_18_code
def y_Model_round : MethodName := ⟨R_Model, "round", "(II)V"⟩
abbrev b_Model_finish : ByteArray := prog_9_method_16_code
def y_Model_finish : MethodName := ⟨R_Model, "finish", "(IIII)V"⟩
abbrev b_Model_status : ByteArray := prog_9_method_15_code
def y_Model_status : MethodName := ⟨R_Model, "status", "(I)I"⟩
abbrev b_Model_nextChild : ByteArray := prog_9_method_23_code
def y_Model_nextChild : MethodName := ⟨R_Model, "nextChild", "()I"⟩
abbrev b_Model_before : ByteArray := prog_9_method_22_code
def y_Model_before : MethodName := ⟨R_Model, "before", "(II)Z"⟩
abbrev b_Model_leave : ByteArray := prog_9_method_20_code
def y_Model_leave : MethodName := ⟨R_Model, "leave", "()V"⟩
abbrev b_Model_event : ByteArray := prog_9_method_25_code
def y_Model_event : MethodName := ⟨R_Model, "event", "(II)I"⟩
abbrev b_Model_trouble : ByteArray := prog_9_method_26_code
def y_Model_trouble : MethodName := ⟨R_Model, "trouble", "(II)I"⟩
abbrev b_Model_count : ByteArray := prog_9_method_27_code
def y_Model_count : MethodName := ⟨R_Model, "count", "(I)I"⟩
theorem in_Choice : ∀ w ∈ w_Choice, w ∈ Wl := by decide +kernel
theorem in_Journal : ∀ w ∈ w_Journal, w ∈ Wl := by decide +kernel
theorem in_Methods : ∀ w ∈ w_Methods, w ∈ Wl := by decide +kernel
theorem in_Runner : ∀ w ∈ w_Runner, w ∈ Wl := by decide +kernel
theorem in_Tree : ∀ w ∈ w_Tree, w ∈ Wl := by decide +kernel
theorem in_Troubles : ∀ w ∈ w_Troubles, w ∈ Wl := by decide +kernel
theorem in_Engine : ∀ w ∈ w_Engine, w ∈ Wl := by decide +kernel
theorem in_Model : ∀ w ∈ w_Model, w ∈ Wl := by decide +kernel
end
section
theorem fl_Tree_9 : Cond.fieldLink R_Tree 9 "LifecycleEngine$Tree" "parents" "[I" ∈ Wl := (mw (List.mem_of_getElem? (i := 58) (by decide +kernel)) rfl)
theorem fl_Tree_15 : Cond.fieldLink R_Tree 15 "LifecycleEngine$Tree" "depths" "[I" ∈ Wl := (mw (List.mem_of_getElem? (i := 59) (by decide +kernel)) rfl)
theorem fl_Tree_18 : Cond.fieldLink R_Tree 18 "LifecycleEngine$Tree" "orders" "[I" ∈ Wl := (mw (List.mem_of_getElem? (i := 60) (by decide +kernel)) rfl)
theorem fl_Tree_21 : Cond.fieldLink R_Tree 21 "LifecycleEngine$Tree" "tags" "[I" ∈ Wl := (mw (List.mem_of_getElem? (i := 61) (by decide +kernel)) rfl)
theorem fl_Tree_24 : Cond.fieldLink R_Tree 24 "LifecycleEngine$Tree" "disabled" "[Z" ∈ Wl := (mw (List.mem_of_getElem? (i := 62) (by decide +kernel)) rfl)
theorem fl_Tree_28 : Cond.fieldLink R_Tree 28 "LifecycleEngine$Tree" "shared" "[Z" ∈ Wl := (mw (List.mem_of_getElem? (i := 63) (by decide +kernel)) rfl)
theorem fl_Tree_31 : Cond.fieldLink R_Tree 31 "LifecycleEngine$Tree" "rounds" "[I" ∈ Wl := (mw (List.mem_of_getElem? (i := 64) (by decide +kernel)) rfl)
theorem fl_Tree_34 : Cond.fieldLink R_Tree 34 "LifecycleEngine$Tree" "deadlines" "[I" ∈ Wl := (mw (List.mem_of_getElem? (i := 65) (by decide +kernel)) rfl)
theorem fl_Tree_37 : Cond.fieldLink R_Tree 37 "LifecycleEngine$Tree" "size" "I" ∈ Wl := (mw (List.mem_of_getElem? (i := 66) (by decide +kernel)) rfl)
theorem fl_Methods_9 : Cond.fieldLink R_Methods 9 "LifecycleEngine$Methods" "there" "[Z" ∈ Wl := (mw (List.mem_of_getElem? (i := 94) (by decide +kernel)) rfl)
theorem fl_Methods_15 : Cond.fieldLink R_Methods 15 "LifecycleEngine$Methods" "results" "[I" ∈ Wl := (mw (List.mem_of_getElem? (i := 95) (by decide +kernel)) rfl)
theorem fl_Methods_19 : Cond.fieldLink R_Methods 19 "LifecycleEngine$Methods" "codes" "[I" ∈ Wl := (mw (List.mem_of_getElem? (i := 96) (by decide +kernel)) rfl)
theorem fl_Methods_22 : Cond.fieldLink R_Methods 22 "LifecycleEngine$Methods" "lengths" "[I" ∈ Wl := (mw (List.mem_of_getElem? (i := 97) (by decide +kernel)) rfl)
theorem fl_Choice_9 : Cond.fieldLink R_Choice 9 "LifecycleEngine$Choice" "tree" "LLifecycleEngine$Tree;" ∈ Wl := (mw (List.mem_of_getElem? (i := 113) (by decide +kernel)) rfl)
theorem fl_Choice_15 : Cond.fieldLink R_Choice 15 "LifecycleEngine$Choice" "allTags" "[I" ∈ Wl := (mw (List.mem_of_getElem? (i := 114) (by decide +kernel)) rfl)
theorem fl_Choice_19 : Cond.fieldLink R_Choice 19 "LifecycleEngine$Choice" "chosen" "[Z" ∈ Wl := (mw (List.mem_of_getElem? (i := 115) (by decide +kernel)) rfl)
theorem fl_Choice_26 : Cond.fieldLink R_Choice 26 "LifecycleEngine$Choice" "chosenTests" "I" ∈ Wl := (mw (List.mem_of_getElem? (i := 116) (by decide +kernel)) rfl)
theorem fl_Journal_9 : Cond.fieldLink R_Journal 9 "LifecycleEngine$Journal" "fields" "[I" ∈ Wl := (mw (List.mem_of_getElem? (i := 132) (by decide +kernel)) rfl)
theorem fl_Journal_15 : Cond.fieldLink R_Journal 15 "LifecycleEngine$Journal" "codes" "[I" ∈ Wl := (mw (List.mem_of_getElem? (i := 133) (by decide +kernel)) rfl)
theorem fl_Journal_18 : Cond.fieldLink R_Journal 18 "LifecycleEngine$Journal" "roundsByStatus" "[I" ∈ Wl := (mw (List.mem_of_getElem? (i := 134) (by decide +kernel)) rfl)
theorem fl_Journal_21 : Cond.fieldLink R_Journal 21 "LifecycleEngine$Journal" "events" "I" ∈ Wl := (mw (List.mem_of_getElem? (i := 135) (by decide +kernel)) rfl)
theorem fl_Journal_25 : Cond.fieldLink R_Journal 25 "LifecycleEngine$Journal" "skips" "I" ∈ Wl := (mw (List.mem_of_getElem? (i := 136) (by decide +kernel)) rfl)
theorem fl_Journal_28 : Cond.fieldLink R_Journal 28 "LifecycleEngine$Journal" "troubledContainers" "I" ∈ Wl := (mw (List.mem_of_getElem? (i := 137) (by decide +kernel)) rfl)
theorem fl_Journal_31 : Cond.fieldLink R_Journal 31 "LifecycleEngine$Journal" "failure" "Z" ∈ Wl := (mw (List.mem_of_getElem? (i := 138) (by decide +kernel)) rfl)
theorem fl_Troubles_9 : Cond.fieldLink R_Troubles 9 "LifecycleEngine$Troubles" "codes" "[I" ∈ Wl := (mw (List.mem_of_getElem? (i := 167) (by decide +kernel)) rfl)
theorem fl_Troubles_15 : Cond.fieldLink R_Troubles 15 "LifecycleEngine$Troubles" "size" "I" ∈ Wl := (mw (List.mem_of_getElem? (i := 168) (by decide +kernel)) rfl)
theorem fl_Troubles_19 : Cond.fieldLink R_Troubles 19 "LifecycleEngine$Troubles" "firstGaveUp" "Z" ∈ Wl := (mw (List.mem_of_getElem? (i := 169) (by decide +kernel)) rfl)
theorem fl_Runner_9 : Cond.fieldLink R_Runner 9 "LifecycleEngine$Runner" "tree" "LLifecycleEngine$Tree;" ∈ Wl := (mw (List.mem_of_getElem? (i := 177) (by decide +kernel)) rfl)
theorem fl_Runner_15 : Cond.fieldLink R_Runner 15 "LifecycleEngine$Runner" "methods" "LLifecycleEngine$Methods;" ∈ Wl := (mw (List.mem_of_getElem? (i := 178) (by decide +kernel)) rfl)
theorem fl_Runner_19 : Cond.fieldLink R_Runner 19 "LifecycleEngine$Runner" "choice" "LLifecycleEngine$Choice;" ∈ Wl := (mw (List.mem_of_getElem? (i := 179) (by decide +kernel)) rfl)
theorem fl_Runner_23 : Cond.fieldLink R_Runner 23 "LifecycleEngine$Runner" "journal" "LLifecycleEngine$Journal;" ∈ Wl := (mw (List.mem_of_getElem? (i := 180) (by decide +kernel)) rfl)
theorem fl_Runner_29 : Cond.fieldLink R_Runner 29 "LifecycleEngine$Runner" "lists" "[LLifecycleEngine$Troubles;" ∈ Wl := (mw (List.mem_of_getElem? (i := 181) (by decide +kernel)) rfl)
theorem fl_Runner_34 : Cond.fieldLink R_Runner 34 "LifecycleEngine$Runner" "path" "[I" ∈ Wl := (mw (List.mem_of_getElem? (i := 182) (by decide +kernel)) rfl)
theorem fl_Runner_38 : Cond.fieldLink R_Runner 38 "LifecycleEngine$Runner" "instances" "[I" ∈ Wl := (mw (List.mem_of_getElem? (i := 183) (by decide +kernel)) rfl)
theorem fl_Runner_41 : Cond.fieldLink R_Runner 41 "LifecycleEngine$Runner" "instancesMade" "I" ∈ Wl := (mw (List.mem_of_getElem? (i := 184) (by decide +kernel)) rfl)
theorem fl_Runner_45 : Cond.fieldLink R_Runner 45 "LifecycleEngine$Runner" "time" "I" ∈ Wl := (mw (List.mem_of_getElem? (i := 185) (by decide +kernel)) rfl)
theorem fl_Runner_48 : Cond.fieldLink R_Runner 48 "LifecycleEngine$Runner" "calls" "I" ∈ Wl := (mw (List.mem_of_getElem? (i := 186) (by decide +kernel)) rfl)
theorem fl_Runner_51 : Cond.fieldLink R_Runner 51 "LifecycleEngine$Runner" "breakAt" "I" ∈ Wl := (mw (List.mem_of_getElem? (i := 187) (by decide +kernel)) rfl)
theorem fl_Engine_12 : Cond.fieldLink R_Engine 12 "LifecycleEngine" "tree" "LLifecycleEngine$Tree;" ∈ Wl := (mw (List.mem_of_getElem? (i := 211) (by decide +kernel)) rfl)
theorem fl_Engine_19 : Cond.fieldLink R_Engine 19 "LifecycleEngine" "methods" "LLifecycleEngine$Methods;" ∈ Wl := (mw (List.mem_of_getElem? (i := 212) (by decide +kernel)) rfl)
theorem fl_Engine_28 : Cond.fieldLink R_Engine 28 "LifecycleEngine" "choice" "LLifecycleEngine$Choice;" ∈ Wl := (mw (List.mem_of_getElem? (i := 213) (by decide +kernel)) rfl)
theorem fl_Engine_35 : Cond.fieldLink R_Engine 35 "LifecycleEngine" "journal" "LLifecycleEngine$Journal;" ∈ Wl := (mw (List.mem_of_getElem? (i := 214) (by decide +kernel)) rfl)
theorem fl_Engine_44 : Cond.fieldLink R_Engine 44 "LifecycleEngine" "runner" "LLifecycleEngine$Runner;" ∈ Wl := (mw (List.mem_of_getElem? (i := 215) (by decide +kernel)) rfl)
theorem fl_Model_7 : Cond.fieldLink R_Model 7 "LifecycleEngineModel" "parent" "[I" ∈ Wl := (mw (List.mem_of_getElem? (i := 569) (by decide +kernel)) rfl)
theorem fl_Model_13 : Cond.fieldLink R_Model 13 "LifecycleEngineModel" "order" "[I" ∈ Wl := (mw (List.mem_of_getElem? (i := 570) (by decide +kernel)) rfl)
theorem fl_Model_16 : Cond.fieldLink R_Model 16 "LifecycleEngineModel" "rounds" "[I" ∈ Wl := (mw (List.mem_of_getElem? (i := 571) (by decide +kernel)) rfl)
theorem fl_Model_19 : Cond.fieldLink R_Model 19 "LifecycleEngineModel" "deadline" "[I" ∈ Wl := (mw (List.mem_of_getElem? (i := 572) (by decide +kernel)) rfl)
theorem fl_Model_22 : Cond.fieldLink R_Model 22 "LifecycleEngineModel" "tags" "[I" ∈ Wl := (mw (List.mem_of_getElem? (i := 573) (by decide +kernel)) rfl)
theorem fl_Model_25 : Cond.fieldLink R_Model 25 "LifecycleEngineModel" "shared" "[Z" ∈ Wl := (mw (List.mem_of_getElem? (i := 574) (by decide +kernel)) rfl)
theorem fl_Model_29 : Cond.fieldLink R_Model 29 "LifecycleEngineModel" "disabled" "[Z" ∈ Wl := (mw (List.mem_of_getElem? (i := 575) (by decide +kernel)) rfl)
theorem fl_Model_32 : Cond.fieldLink R_Model 32 "LifecycleEngineModel" "chosen" "[Z" ∈ Wl := (mw (List.mem_of_getElem? (i := 576) (by decide +kernel)) rfl)
theorem fl_Model_35 : Cond.fieldLink R_Model 35 "LifecycleEngineModel" "there" "[Z" ∈ Wl := (mw (List.mem_of_getElem? (i := 577) (by decide +kernel)) rfl)
theorem fl_Model_38 : Cond.fieldLink R_Model 38 "LifecycleEngineModel" "result" "[I" ∈ Wl := (mw (List.mem_of_getElem? (i := 578) (by decide +kernel)) rfl)
theorem fl_Model_41 : Cond.fieldLink R_Model 41 "LifecycleEngineModel" "code" "[I" ∈ Wl := (mw (List.mem_of_getElem? (i := 579) (by decide +kernel)) rfl)
theorem fl_Model_44 : Cond.fieldLink R_Model 44 "LifecycleEngineModel" "lasts" "[I" ∈ Wl := (mw (List.mem_of_getElem? (i := 580) (by decide +kernel)) rfl)
theorem fl_Model_47 : Cond.fieldLink R_Model 47 "LifecycleEngineModel" "nodes" "I" ∈ Wl := (mw (List.mem_of_getElem? (i := 581) (by decide +kernel)) rfl)
theorem fl_Model_51 : Cond.fieldLink R_Model 51 "LifecycleEngineModel" "level" "[I" ∈ Wl := (mw (List.mem_of_getElem? (i := 582) (by decide +kernel)) rfl)
theorem fl_Model_54 : Cond.fieldLink R_Model 54 "LifecycleEngineModel" "lastChild" "[I" ∈ Wl := (mw (List.mem_of_getElem? (i := 583) (by decide +kernel)) rfl)
theorem fl_Model_57 : Cond.fieldLink R_Model 57 "LifecycleEngineModel" "instance" "[I" ∈ Wl := (mw (List.mem_of_getElem? (i := 584) (by decide +kernel)) rfl)
theorem fl_Model_135 : Cond.fieldLink R_Model 135 "LifecycleEngineModel" "levels" "I" ∈ Wl := (mw (List.mem_of_getElem? (i := 585) (by decide +kernel)) rfl)
theorem fl_Model_60 : Cond.fieldLink R_Model 60 "LifecycleEngineModel" "code2" "[I" ∈ Wl := (mw (List.mem_of_getElem? (i := 586) (by decide +kernel)) rfl)
theorem fl_Model_63 : Cond.fieldLink R_Model 63 "LifecycleEngineModel" "gaveUp" "[I" ∈ Wl := (mw (List.mem_of_getElem? (i := 587) (by decide +kernel)) rfl)
theorem fl_Model_66 : Cond.fieldLink R_Model 66 "LifecycleEngineModel" "troubles" "[I" ∈ Wl := (mw (List.mem_of_getElem? (i := 588) (by decide +kernel)) rfl)
theorem fl_Model_69 : Cond.fieldLink R_Model 69 "LifecycleEngineModel" "event" "[I" ∈ Wl := (mw (List.mem_of_getElem? (i := 589) (by decide +kernel)) rfl)
theorem fl_Model_72 : Cond.fieldLink R_Model 72 "LifecycleEngineModel" "eventCode" "[I" ∈ Wl := (mw (List.mem_of_getElem? (i := 590) (by decide +kernel)) rfl)
theorem fl_Model_103 : Cond.fieldLink R_Model 103 "LifecycleEngineModel" "events" "I" ∈ Wl := (mw (List.mem_of_getElem? (i := 591) (by decide +kernel)) rfl)
theorem fl_Model_96 : Cond.fieldLink R_Model 96 "LifecycleEngineModel" "time" "I" ∈ Wl := (mw (List.mem_of_getElem? (i := 592) (by decide +kernel)) rfl)
theorem fl_Model_93 : Cond.fieldLink R_Model 93 "LifecycleEngineModel" "calls" "I" ∈ Wl := (mw (List.mem_of_getElem? (i := 593) (by decide +kernel)) rfl)
theorem fl_Model_138 : Cond.fieldLink R_Model 138 "LifecycleEngineModel" "made" "I" ∈ Wl := (mw (List.mem_of_getElem? (i := 594) (by decide +kernel)) rfl)
theorem fl_Model_123 : Cond.fieldLink R_Model 123 "LifecycleEngineModel" "success" "I" ∈ Wl := (mw (List.mem_of_getElem? (i := 595) (by decide +kernel)) rfl)
theorem fl_Model_126 : Cond.fieldLink R_Model 126 "LifecycleEngineModel" "failed" "I" ∈ Wl := (mw (List.mem_of_getElem? (i := 596) (by decide +kernel)) rfl)
theorem fl_Model_129 : Cond.fieldLink R_Model 129 "LifecycleEngineModel" "aborted" "I" ∈ Wl := (mw (List.mem_of_getElem? (i := 597) (by decide +kernel)) rfl)
theorem fl_Model_106 : Cond.fieldLink R_Model 106 "LifecycleEngineModel" "skipped" "I" ∈ Wl := (mw (List.mem_of_getElem? (i := 598) (by decide +kernel)) rfl)
theorem fl_Model_120 : Cond.fieldLink R_Model 120 "LifecycleEngineModel" "badContainers" "I" ∈ Wl := (mw (List.mem_of_getElem? (i := 599) (by decide +kernel)) rfl)
theorem fl_Model_90 : Cond.fieldLink R_Model 90 "LifecycleEngineModel" "tests" "I" ∈ Wl := (mw (List.mem_of_getElem? (i := 600) (by decide +kernel)) rfl)
theorem fl_Model_132 : Cond.fieldLink R_Model 132 "LifecycleEngineModel" "stop" "I" ∈ Wl := (mw (List.mem_of_getElem? (i := 601) (by decide +kernel)) rfl)
theorem fl_Model_116 : Cond.fieldLink R_Model 116 "LifecycleEngineModel" "anyFailed" "Z" ∈ Wl := (mw (List.mem_of_getElem? (i := 602) (by decide +kernel)) rfl)
theorem kz_Law : Cond.initialized R_law ∈ Wl := (mw (List.mem_of_getElem? (i := 34) (by decide +kernel)) rfl)
theorem kz_Engine : Cond.initialized R_Engine ∈ Wl := (mw (List.mem_of_getElem? (i := 35) (by decide +kernel)) rfl)
theorem kz_Tree : Cond.initialized R_Tree ∈ Wl := (mw (List.mem_of_getElem? (i := 36) (by decide +kernel)) rfl)
theorem kz_Methods : Cond.initialized R_Methods ∈ Wl := (mw (List.mem_of_getElem? (i := 37) (by decide +kernel)) rfl)
theorem kz_Choice : Cond.initialized R_Choice ∈ Wl := (mw (List.mem_of_getElem? (i := 38) (by decide +kernel)) rfl)
theorem kz_Journal : Cond.initialized R_Journal ∈ Wl := (mw (List.mem_of_getElem? (i := 39) (by decide +kernel)) rfl)
theorem kz_Runner : Cond.initialized R_Runner ∈ Wl := (mw (List.mem_of_getElem? (i := 40) (by decide +kernel)) rfl)
theorem kz_Troubles : Cond.initialized R_Troubles ∈ Wl := (mw (List.mem_of_getElem? (i := 41) (by decide +kernel)) rfl)
theorem kz_Model : Cond.initialized R_Model ∈ Wl := (mw (List.mem_of_getElem? (i := 42) (by decide +kernel)) rfl)
theorem kz_Math : Cond.initialized R_Math ∈ Wl := (mw (List.mem_of_getElem? (i := 43) (by decide +kernel)) rfl)
theorem kl_Law_7 : Cond.classLink R_law 7 R_Engine ∈ Wl := (mw (List.mem_of_getElem? (i := 44) (by decide +kernel)) rfl)
theorem ki_Engine : Cond.instantiable R_Engine 5 ∈ Wl := (mw (List.mem_of_getElem? (i := 45) (by decide +kernel)) rfl)
theorem cw_Law_9 : ∀ w ∈ (([Cond.methodLink R_law 9 y_Engine_init, Cond.instanceMethod y_Engine_init, Cond.initialized R_Engine] : List Cond) ++ [Cond.code y_Engine_init b_Engine_init 1 none]), w ∈ Wl := List.forall_mem_cons.mpr ⟨(mw (List.mem_of_getElem? (i := 46) (by decide +kernel)) rfl), List.forall_mem_cons.mpr ⟨(mw (List.mem_of_getElem? (i := 47) (by decide +kernel)) rfl), List.forall_mem_cons.mpr ⟨(mw (List.mem_of_getElem? (i := 35) (by decide +kernel)) rfl), List.forall_mem_cons.mpr ⟨(mw (List.mem_of_getElem? (i := 48) (by decide +kernel)) rfl), fun _ h => absurd h List.not_mem_nil⟩⟩⟩⟩
theorem kc_Engine_init : Cond.code y_Engine_init b_Engine_init 1 none ∈ Wl := (mw (List.mem_of_getElem? (i := 48) (by decide +kernel)) rfl)
theorem mo_Engine_3 : Cond.methodLink R_Engine 3 objectInit ∈ Wl := (mw (List.mem_of_getElem? (i := 49) (by decide +kernel)) rfl)
theorem ko_inst : Cond.instanceMethod objectInit ∈ Wl := (mw (List.mem_of_getElem? (i := 50) (by decide +kernel)) rfl)
theorem ko_code : Cond.code objectInit ⟨#[0xb1]⟩ 1 none ∈ Wl := (mw (List.mem_of_getElem? (i := 51) (by decide +kernel)) rfl)
theorem kl_Engine_9 : Cond.classLink R_Engine 9 R_Tree ∈ Wl := (mw (List.mem_of_getElem? (i := 52) (by decide +kernel)) rfl)
theorem ki_Tree : Cond.instantiable R_Tree 9 ∈ Wl := (mw (List.mem_of_getElem? (i := 53) (by decide +kernel)) rfl)
theorem cw_Engine_11 : ∀ w ∈ (([Cond.methodLink R_Engine 11 y_Tree_init, Cond.instanceMethod y_Tree_init, Cond.initialized R_Tree] : List Cond) ++ [Cond.code y_Tree_init b_Tree_init 1 none]), w ∈ Wl := List.forall_mem_cons.mpr ⟨(mw (List.mem_of_getElem? (i := 54) (by decide +kernel)) rfl), List.forall_mem_cons.mpr ⟨(mw (List.mem_of_getElem? (i := 55) (by decide +kernel)) rfl), List.forall_mem_cons.mpr ⟨(mw (List.mem_of_getElem? (i := 36) (by decide +kernel)) rfl), List.forall_mem_cons.mpr ⟨(mw (List.mem_of_getElem? (i := 56) (by decide +kernel)) rfl), fun _ h => absurd h List.not_mem_nil⟩⟩⟩⟩
theorem kc_Tree_init : Cond.code y_Tree_init b_Tree_init 1 none ∈ Wl := (mw (List.mem_of_getElem? (i := 56) (by decide +kernel)) rfl)
theorem mo_Tree_3 : Cond.methodLink R_Tree 3 objectInit ∈ Wl := (mw (List.mem_of_getElem? (i := 57) (by decide +kernel)) rfl)
theorem ka_int : Cond.arrayClass .int ∈ Wl := (mw (List.mem_of_getElem? (i := 86) (by decide +kernel)) rfl)
theorem ka_boolean : Cond.arrayClass .boolean ∈ Wl := (mw (List.mem_of_getElem? (i := 87) (by decide +kernel)) rfl)
theorem kl_Engine_16 : Cond.classLink R_Engine 16 R_Methods ∈ Wl := (mw (List.mem_of_getElem? (i := 88) (by decide +kernel)) rfl)
theorem ki_Methods : Cond.instantiable R_Methods 4 ∈ Wl := (mw (List.mem_of_getElem? (i := 89) (by decide +kernel)) rfl)
theorem cw_Engine_18 : ∀ w ∈ (([Cond.methodLink R_Engine 18 y_Methods_init, Cond.instanceMethod y_Methods_init, Cond.initialized R_Methods] : List Cond) ++ [Cond.code y_Methods_init b_Methods_init 1 none]), w ∈ Wl := List.forall_mem_cons.mpr ⟨(mw (List.mem_of_getElem? (i := 90) (by decide +kernel)) rfl), List.forall_mem_cons.mpr ⟨(mw (List.mem_of_getElem? (i := 91) (by decide +kernel)) rfl), List.forall_mem_cons.mpr ⟨(mw (List.mem_of_getElem? (i := 37) (by decide +kernel)) rfl), List.forall_mem_cons.mpr ⟨(mw (List.mem_of_getElem? (i := 92) (by decide +kernel)) rfl), fun _ h => absurd h List.not_mem_nil⟩⟩⟩⟩
theorem kc_Methods_init : Cond.code y_Methods_init b_Methods_init 1 none ∈ Wl := (mw (List.mem_of_getElem? (i := 92) (by decide +kernel)) rfl)
theorem mo_Methods_3 : Cond.methodLink R_Methods 3 objectInit ∈ Wl := (mw (List.mem_of_getElem? (i := 93) (by decide +kernel)) rfl)
theorem kl_Engine_23 : Cond.classLink R_Engine 23 R_Choice ∈ Wl := (mw (List.mem_of_getElem? (i := 107) (by decide +kernel)) rfl)
theorem ki_Choice : Cond.instantiable R_Choice 4 ∈ Wl := (mw (List.mem_of_getElem? (i := 108) (by decide +kernel)) rfl)
theorem cw_Engine_25 : ∀ w ∈ (([Cond.methodLink R_Engine 25 y_Choice_init, Cond.instanceMethod y_Choice_init, Cond.initialized R_Choice] : List Cond) ++ [Cond.code y_Choice_init b_Choice_init 2 none]), w ∈ Wl := List.forall_mem_cons.mpr ⟨(mw (List.mem_of_getElem? (i := 109) (by decide +kernel)) rfl), List.forall_mem_cons.mpr ⟨(mw (List.mem_of_getElem? (i := 110) (by decide +kernel)) rfl), List.forall_mem_cons.mpr ⟨(mw (List.mem_of_getElem? (i := 38) (by decide +kernel)) rfl), List.forall_mem_cons.mpr ⟨(mw (List.mem_of_getElem? (i := 111) (by decide +kernel)) rfl), fun _ h => absurd h List.not_mem_nil⟩⟩⟩⟩
theorem kc_Choice_init : Cond.code y_Choice_init b_Choice_init 2 none ∈ Wl := (mw (List.mem_of_getElem? (i := 111) (by decide +kernel)) rfl)
theorem mo_Choice_3 : Cond.methodLink R_Choice 3 objectInit ∈ Wl := (mw (List.mem_of_getElem? (i := 112) (by decide +kernel)) rfl)
theorem kl_Engine_32 : Cond.classLink R_Engine 32 R_Journal ∈ Wl := (mw (List.mem_of_getElem? (i := 126) (by decide +kernel)) rfl)
theorem ki_Journal : Cond.instantiable R_Journal 7 ∈ Wl := (mw (List.mem_of_getElem? (i := 127) (by decide +kernel)) rfl)
theorem cw_Engine_34 : ∀ w ∈ (([Cond.methodLink R_Engine 34 y_Journal_init, Cond.instanceMethod y_Journal_init, Cond.initialized R_Journal] : List Cond) ++ [Cond.code y_Journal_init b_Journal_init 1 none]), w ∈ Wl := List.forall_mem_cons.mpr ⟨(mw (List.mem_of_getElem? (i := 128) (by decide +kernel)) rfl), List.forall_mem_cons.mpr ⟨(mw (List.mem_of_getElem? (i := 129) (by decide +kernel)) rfl), List.forall_mem_cons.mpr ⟨(mw (List.mem_of_getElem? (i := 39) (by decide +kernel)) rfl), List.forall_mem_cons.mpr ⟨(mw (List.mem_of_getElem? (i := 130) (by decide +kernel)) rfl), fun _ h => absurd h List.not_mem_nil⟩⟩⟩⟩
theorem kc_Journal_init : Cond.code y_Journal_init b_Journal_init 1 none ∈ Wl := (mw (List.mem_of_getElem? (i := 130) (by decide +kernel)) rfl)
theorem mo_Journal_3 : Cond.methodLink R_Journal 3 objectInit ∈ Wl := (mw (List.mem_of_getElem? (i := 131) (by decide +kernel)) rfl)
theorem kl_Engine_39 : Cond.classLink R_Engine 39 R_Runner ∈ Wl := (mw (List.mem_of_getElem? (i := 154) (by decide +kernel)) rfl)
theorem ki_Runner : Cond.instantiable R_Runner 11 ∈ Wl := (mw (List.mem_of_getElem? (i := 155) (by decide +kernel)) rfl)
theorem cw_Engine_41 : ∀ w ∈ (([Cond.methodLink R_Engine 41 y_Runner_init, Cond.instanceMethod y_Runner_init, Cond.initialized R_Runner] : List Cond) ++ [Cond.code y_Runner_init b_Runner_init 6 none]), w ∈ Wl := List.forall_mem_cons.mpr ⟨(mw (List.mem_of_getElem? (i := 156) (by decide +kernel)) rfl), List.forall_mem_cons.mpr ⟨(mw (List.mem_of_getElem? (i := 157) (by decide +kernel)) rfl), List.forall_mem_cons.mpr ⟨(mw (List.mem_of_getElem? (i := 40) (by decide +kernel)) rfl), List.forall_mem_cons.mpr ⟨(mw (List.mem_of_getElem? (i := 158) (by decide +kernel)) rfl), fun _ h => absurd h List.not_mem_nil⟩⟩⟩⟩
theorem kc_Runner_init : Cond.code y_Runner_init b_Runner_init 6 none ∈ Wl := (mw (List.mem_of_getElem? (i := 158) (by decide +kernel)) rfl)
theorem mo_Runner_3 : Cond.methodLink R_Runner 3 objectInit ∈ Wl := (mw (List.mem_of_getElem? (i := 159) (by decide +kernel)) rfl)
theorem kl_Runner_27 : Cond.classLink R_Runner 27 R_Troubles ∈ Wl := (mw (List.mem_of_getElem? (i := 160) (by decide +kernel)) rfl)
theorem ka_over : Cond.arrayOver (.object "LifecycleEngine$Troubles") ∈ lw_tbl := (List.mem_of_getElem? (i := 161) (by decide +kernel))
theorem ki_Troubles : Cond.instantiable R_Troubles 3 ∈ Wl := (mw (List.mem_of_getElem? (i := 162) (by decide +kernel)) rfl)
theorem cw_Runner_33 : ∀ w ∈ (([Cond.methodLink R_Runner 33 y_Troubles_init, Cond.instanceMethod y_Troubles_init, Cond.initialized R_Troubles] : List Cond) ++ [Cond.code y_Troubles_init b_Troubles_init 1 none]), w ∈ Wl := List.forall_mem_cons.mpr ⟨(mw (List.mem_of_getElem? (i := 163) (by decide +kernel)) rfl), List.forall_mem_cons.mpr ⟨(mw (List.mem_of_getElem? (i := 164) (by decide +kernel)) rfl), List.forall_mem_cons.mpr ⟨(mw (List.mem_of_getElem? (i := 41) (by decide +kernel)) rfl), List.forall_mem_cons.mpr ⟨(mw (List.mem_of_getElem? (i := 165) (by decide +kernel)) rfl), fun _ h => absurd h List.not_mem_nil⟩⟩⟩⟩
theorem kc_Troubles_init : Cond.code y_Troubles_init b_Troubles_init 1 none ∈ Wl := (mw (List.mem_of_getElem? (i := 165) (by decide +kernel)) rfl)
theorem mo_Troubles_3 : Cond.methodLink R_Troubles 3 objectInit ∈ Wl := (mw (List.mem_of_getElem? (i := 166) (by decide +kernel)) rfl)
theorem cw_Law_13 : ∀ w ∈ (([Cond.methodLink R_law 13 y_Engine_container, Cond.instanceMethod y_Engine_container, Cond.selects R_Engine y_Engine_container y_Engine_container, Cond.initialized R_Engine] : List Cond) ++ [Cond.code y_Engine_container b_Engine_container 4 (some .int)]), w ∈ Wl := List.forall_mem_cons.mpr ⟨(mw (List.mem_of_getElem? (i := 227) (by decide +kernel)) rfl), List.forall_mem_cons.mpr ⟨(mw (List.mem_of_getElem? (i := 228) (by decide +kernel)) rfl), List.forall_mem_cons.mpr ⟨(mw (List.mem_of_getElem? (i := 229) (by decide +kernel)) rfl), List.forall_mem_cons.mpr ⟨(mw (List.mem_of_getElem? (i := 35) (by decide +kernel)) rfl), List.forall_mem_cons.mpr ⟨(mw (List.mem_of_getElem? (i := 230) (by decide +kernel)) rfl), fun _ h => absurd h List.not_mem_nil⟩⟩⟩⟩⟩
theorem kc_Engine_container : Cond.code y_Engine_container b_Engine_container 4 (some .int) ∈ Wl := (mw (List.mem_of_getElem? (i := 230) (by decide +kernel)) rfl)
theorem cw_Engine_48 : ∀ w ∈ (([Cond.methodLink R_Engine 48 y_Tree_isContainer, Cond.instanceMethod y_Tree_isContainer, Cond.selects R_Tree y_Tree_isContainer y_Tree_isContainer, Cond.initialized R_Tree] : List Cond) ++ [Cond.code y_Tree_isContainer b_Tree_isContainer 2 (some .boolean)]), w ∈ Wl := List.forall_mem_cons.mpr ⟨(mw (List.mem_of_getElem? (i := 231) (by decide +kernel)) rfl), List.forall_mem_cons.mpr ⟨(mw (List.mem_of_getElem? (i := 232) (by decide +kernel)) rfl), List.forall_mem_cons.mpr ⟨(mw (List.mem_of_getElem? (i := 233) (by decide +kernel)) rfl), List.forall_mem_cons.mpr ⟨(mw (List.mem_of_getElem? (i := 36) (by decide +kernel)) rfl), List.forall_mem_cons.mpr ⟨(mw (List.mem_of_getElem? (i := 234) (by decide +kernel)) rfl), fun _ h => absurd h List.not_mem_nil⟩⟩⟩⟩⟩
theorem kc_Tree_isContainer : Cond.code y_Tree_isContainer b_Tree_isContainer 2 (some .boolean) ∈ Wl := (mw (List.mem_of_getElem? (i := 234) (by decide +kernel)) rfl)
theorem cw_Tree_45 : ∀ w ∈ (([Cond.methodLink R_Tree 45 y_Tree_isNode, Cond.instanceMethod y_Tree_isNode, Cond.selects R_Tree y_Tree_isNode y_Tree_isNode, Cond.initialized R_Tree] : List Cond) ++ [Cond.code y_Tree_isNode b_Tree_isNode 2 (some .boolean)]), w ∈ Wl := List.forall_mem_cons.mpr ⟨(mw (List.mem_of_getElem? (i := 235) (by decide +kernel)) rfl), List.forall_mem_cons.mpr ⟨(mw (List.mem_of_getElem? (i := 236) (by decide +kernel)) rfl), List.forall_mem_cons.mpr ⟨(mw (List.mem_of_getElem? (i := 237) (by decide +kernel)) rfl), List.forall_mem_cons.mpr ⟨(mw (List.mem_of_getElem? (i := 36) (by decide +kernel)) rfl), List.forall_mem_cons.mpr ⟨(mw (List.mem_of_getElem? (i := 238) (by decide +kernel)) rfl), fun _ h => absurd h List.not_mem_nil⟩⟩⟩⟩⟩
theorem kc_Tree_isNode : Cond.code y_Tree_isNode b_Tree_isNode 2 (some .boolean) ∈ Wl := (mw (List.mem_of_getElem? (i := 238) (by decide +kernel)) rfl)
theorem mn_Tree_41 : Cond.methodLinkNest R_Tree 41 y_Engine_isWithin "LifecycleEngine" ∈ lw_tbl := (List.mem_of_getElem? (i := 239) (by decide +kernel))
theorem ks_Engine_isWithin : Cond.static y_Engine_isWithin ∈ Wl := (mw (List.mem_of_getElem? (i := 240) (by decide +kernel)) rfl)
theorem kc_Engine_isWithin : Cond.code y_Engine_isWithin b_Engine_isWithin 3 (some .boolean) ∈ Wl := (mw (List.mem_of_getElem? (i := 241) (by decide +kernel)) rfl)
theorem cw_Engine_52 : ∀ w ∈ (([Cond.methodLink R_Engine 52 y_Tree_depthOf, Cond.instanceMethod y_Tree_depthOf, Cond.selects R_Tree y_Tree_depthOf y_Tree_depthOf, Cond.initialized R_Tree] : List Cond) ++ [Cond.code y_Tree_depthOf b_Tree_depthOf 2 (some .int)]), w ∈ Wl := List.forall_mem_cons.mpr ⟨(mw (List.mem_of_getElem? (i := 242) (by decide +kernel)) rfl), List.forall_mem_cons.mpr ⟨(mw (List.mem_of_getElem? (i := 243) (by decide +kernel)) rfl), List.forall_mem_cons.mpr ⟨(mw (List.mem_of_getElem? (i := 244) (by decide +kernel)) rfl), List.forall_mem_cons.mpr ⟨(mw (List.mem_of_getElem? (i := 36) (by decide +kernel)) rfl), List.forall_mem_cons.mpr ⟨(mw (List.mem_of_getElem? (i := 245) (by decide +kernel)) rfl), fun _ h => absurd h List.not_mem_nil⟩⟩⟩⟩⟩
theorem kc_Tree_depthOf : Cond.code y_Tree_depthOf b_Tree_depthOf 2 (some .int) ∈ Wl := (mw (List.mem_of_getElem? (i := 245) (by decide +kernel)) rfl)
theorem cw_Engine_56 : ∀ w ∈ (([Cond.methodLink R_Engine 56 y_Engine_isWithin, Cond.static y_Engine_isWithin, Cond.initialized y_Engine_isWithin.cls] : List Cond) ++ [Cond.code y_Engine_isWithin b_Engine_isWithin 3 (some .boolean)]), w ∈ Wl := List.forall_mem_cons.mpr ⟨(mw (List.mem_of_getElem? (i := 246) (by decide +kernel)) rfl), List.forall_mem_cons.mpr ⟨(mw (List.mem_of_getElem? (i := 240) (by decide +kernel)) rfl), List.forall_mem_cons.mpr ⟨(mw (List.mem_of_getElem? (i := 35) (by decide +kernel)) rfl), List.forall_mem_cons.mpr ⟨(mw (List.mem_of_getElem? (i := 241) (by decide +kernel)) rfl), fun _ h => absurd h List.not_mem_nil⟩⟩⟩⟩
theorem cw_Engine_60 : ∀ w ∈ (([Cond.methodLink R_Engine 60 y_Tree_isFull, Cond.instanceMethod y_Tree_isFull, Cond.selects R_Tree y_Tree_isFull y_Tree_isFull, Cond.initialized R_Tree] : List Cond) ++ [Cond.code y_Tree_isFull b_Tree_isFull 1 (some .boolean)]), w ∈ Wl := List.forall_mem_cons.mpr ⟨(mw (List.mem_of_getElem? (i := 247) (by decide +kernel)) rfl), List.forall_mem_cons.mpr ⟨(mw (List.mem_of_getElem? (i := 248) (by decide +kernel)) rfl), List.forall_mem_cons.mpr ⟨(mw (List.mem_of_getElem? (i := 249) (by decide +kernel)) rfl), List.forall_mem_cons.mpr ⟨(mw (List.mem_of_getElem? (i := 36) (by decide +kernel)) rfl), List.forall_mem_cons.mpr ⟨(mw (List.mem_of_getElem? (i := 250) (by decide +kernel)) rfl), fun _ h => absurd h List.not_mem_nil⟩⟩⟩⟩⟩
theorem kc_Tree_isFull : Cond.code y_Tree_isFull b_Tree_isFull 1 (some .boolean) ∈ Wl := (mw (List.mem_of_getElem? (i := 250) (by decide +kernel)) rfl)
theorem cw_Engine_64 : ∀ w ∈ (([Cond.methodLink R_Engine 64 y_Tree_addContainer, Cond.instanceMethod y_Tree_addContainer, Cond.selects R_Tree y_Tree_addContainer y_Tree_addContainer, Cond.initialized R_Tree] : List Cond) ++ [Cond.code y_Tree_addContainer b_Tree_addContainer 5 (some .int)]), w ∈ Wl := List.forall_mem_cons.mpr ⟨(mw (List.mem_of_getElem? (i := 251) (by decide +kernel)) rfl), List.forall_mem_cons.mpr ⟨(mw (List.mem_of_getElem? (i := 252) (by decide +kernel)) rfl), List.forall_mem_cons.mpr ⟨(mw (List.mem_of_getElem? (i := 253) (by decide +kernel)) rfl), List.forall_mem_cons.mpr ⟨(mw (List.mem_of_getElem? (i := 36) (by decide +kernel)) rfl), List.forall_mem_cons.mpr ⟨(mw (List.mem_of_getElem? (i := 254) (by decide +kernel)) rfl), fun _ h => absurd h List.not_mem_nil⟩⟩⟩⟩⟩
theorem kc_Tree_addContainer : Cond.code y_Tree_addContainer b_Tree_addContainer 5 (some .int) ∈ Wl := (mw (List.mem_of_getElem? (i := 254) (by decide +kernel)) rfl)
theorem cw_Tree_49 : ∀ w ∈ (([Cond.methodLink R_Tree 49 y_Tree_addNode, Cond.instanceMethod y_Tree_addNode, Cond.selects R_Tree y_Tree_addNode y_Tree_addNode, Cond.initialized R_Tree] : List Cond) ++ [Cond.code y_Tree_addNode b_Tree_addNode 4 (some .int)]), w ∈ Wl := List.forall_mem_cons.mpr ⟨(mw (List.mem_of_getElem? (i := 255) (by decide +kernel)) rfl), List.forall_mem_cons.mpr ⟨(mw (List.mem_of_getElem? (i := 257) (by decide +kernel)) rfl), List.forall_mem_cons.mpr ⟨(mw (List.mem_of_getElem? (i := 0) (by decide +kernel)) rfl), List.forall_mem_cons.mpr ⟨(mw (List.mem_of_getElem? (i := 36) (by decide +kernel)) rfl), List.forall_mem_cons.mpr ⟨(mw (List.mem_of_getElem? (i := 258) (by decide +kernel)) rfl), fun _ h => absurd h List.not_mem_nil⟩⟩⟩⟩⟩
theorem kc_Tree_addNode : Cond.code y_Tree_addNode b_Tree_addNode 4 (some .int) ∈ Wl := (mw (List.mem_of_getElem? (i := 258) (by decide +kernel)) rfl)
theorem cw_Law_18 : ∀ w ∈ (([Cond.methodLink R_law 18 y_Engine_test, Cond.instanceMethod y_Engine_test, Cond.selects R_Engine y_Engine_test y_Engine_test, Cond.initialized R_Engine] : List Cond) ++ [Cond.code y_Engine_test b_Engine_test 6 (some .int)]), w ∈ Wl := List.forall_mem_cons.mpr ⟨(mw (List.mem_of_getElem? (i := 259) (by decide +kernel)) rfl), List.forall_mem_cons.mpr ⟨(mw (List.mem_of_getElem? (i := 260) (by decide +kernel)) rfl), List.forall_mem_cons.mpr ⟨(mw (List.mem_of_getElem? (i := 261) (by decide +kernel)) rfl), List.forall_mem_cons.mpr ⟨(mw (List.mem_of_getElem? (i := 35) (by decide +kernel)) rfl), List.forall_mem_cons.mpr ⟨(mw (List.mem_of_getElem? (i := 262) (by decide +kernel)) rfl), fun _ h => absurd h List.not_mem_nil⟩⟩⟩⟩⟩
theorem kc_Engine_test : Cond.code y_Engine_test b_Engine_test 6 (some .int) ∈ Wl := (mw (List.mem_of_getElem? (i := 262) (by decide +kernel)) rfl)
theorem cw_Engine_68 : ∀ w ∈ (([Cond.methodLink R_Engine 68 y_Tree_addTest, Cond.instanceMethod y_Tree_addTest, Cond.selects R_Tree y_Tree_addTest y_Tree_addTest, Cond.initialized R_Tree] : List Cond) ++ [Cond.code y_Tree_addTest b_Tree_addTest 6 (some .int)]), w ∈ Wl := List.forall_mem_cons.mpr ⟨(mw (List.mem_of_getElem? (i := 263) (by decide +kernel)) rfl), List.forall_mem_cons.mpr ⟨(mw (List.mem_of_getElem? (i := 264) (by decide +kernel)) rfl), List.forall_mem_cons.mpr ⟨(mw (List.mem_of_getElem? (i := 265) (by decide +kernel)) rfl), List.forall_mem_cons.mpr ⟨(mw (List.mem_of_getElem? (i := 36) (by decide +kernel)) rfl), List.forall_mem_cons.mpr ⟨(mw (List.mem_of_getElem? (i := 266) (by decide +kernel)) rfl), fun _ h => absurd h List.not_mem_nil⟩⟩⟩⟩⟩
theorem kc_Tree_addTest : Cond.code y_Tree_addTest b_Tree_addTest 6 (some .int) ∈ Wl := (mw (List.mem_of_getElem? (i := 266) (by decide +kernel)) rfl)
theorem cw_Engine_72 : ∀ w ∈ (([Cond.methodLink R_Engine 72 y_Methods_giveBodies, Cond.instanceMethod y_Methods_giveBodies, Cond.selects R_Methods y_Methods_giveBodies y_Methods_giveBodies, Cond.initialized R_Methods] : List Cond) ++ [Cond.code y_Methods_giveBodies b_Methods_giveBodies 4 none]), w ∈ Wl := List.forall_mem_cons.mpr ⟨(mw (List.mem_of_getElem? (i := 267) (by decide +kernel)) rfl), List.forall_mem_cons.mpr ⟨(mw (List.mem_of_getElem? (i := 268) (by decide +kernel)) rfl), List.forall_mem_cons.mpr ⟨(mw (List.mem_of_getElem? (i := 269) (by decide +kernel)) rfl), List.forall_mem_cons.mpr ⟨(mw (List.mem_of_getElem? (i := 37) (by decide +kernel)) rfl), List.forall_mem_cons.mpr ⟨(mw (List.mem_of_getElem? (i := 270) (by decide +kernel)) rfl), fun _ h => absurd h List.not_mem_nil⟩⟩⟩⟩⟩
theorem kc_Methods_giveBodies : Cond.code y_Methods_giveBodies b_Methods_giveBodies 4 none ∈ Wl := (mw (List.mem_of_getElem? (i := 270) (by decide +kernel)) rfl)
theorem cw_Methods_25 : ∀ w ∈ (([Cond.methodLink R_Methods 25 y_Methods_give, Cond.instanceMethod y_Methods_give, Cond.selects R_Methods y_Methods_give y_Methods_give, Cond.initialized R_Methods] : List Cond) ++ [Cond.code y_Methods_give b_Methods_give 7 none]), w ∈ Wl := List.forall_mem_cons.mpr ⟨(mw (List.mem_of_getElem? (i := 271) (by decide +kernel)) rfl), List.forall_mem_cons.mpr ⟨(mw (List.mem_of_getElem? (i := 272) (by decide +kernel)) rfl), List.forall_mem_cons.mpr ⟨(mw (List.mem_of_getElem? (i := 273) (by decide +kernel)) rfl), List.forall_mem_cons.mpr ⟨(mw (List.mem_of_getElem? (i := 37) (by decide +kernel)) rfl), List.forall_mem_cons.mpr ⟨(mw (List.mem_of_getElem? (i := 274) (by decide +kernel)) rfl), fun _ h => absurd h List.not_mem_nil⟩⟩⟩⟩⟩
theorem kc_Methods_give : Cond.code y_Methods_give b_Methods_give 7 none ∈ Wl := (mw (List.mem_of_getElem? (i := 274) (by decide +kernel)) rfl)
theorem cw_Methods_29 : ∀ w ∈ (([Cond.methodLink R_Methods 29 y_Methods_placeOf, Cond.static y_Methods_placeOf, Cond.initialized y_Methods_placeOf.cls] : List Cond) ++ [Cond.code y_Methods_placeOf b_Methods_placeOf 2 (some .int)]), w ∈ Wl := List.forall_mem_cons.mpr ⟨(mw (List.mem_of_getElem? (i := 275) (by decide +kernel)) rfl), List.forall_mem_cons.mpr ⟨(mw (List.mem_of_getElem? (i := 276) (by decide +kernel)) rfl), List.forall_mem_cons.mpr ⟨(mw (List.mem_of_getElem? (i := 37) (by decide +kernel)) rfl), List.forall_mem_cons.mpr ⟨(mw (List.mem_of_getElem? (i := 277) (by decide +kernel)) rfl), fun _ h => absurd h List.not_mem_nil⟩⟩⟩⟩
theorem ks_Methods_placeOf : Cond.static y_Methods_placeOf ∈ Wl := (mw (List.mem_of_getElem? (i := 276) (by decide +kernel)) rfl)
theorem kc_Methods_placeOf : Cond.code y_Methods_placeOf b_Methods_placeOf 2 (some .int) ∈ Wl := (mw (List.mem_of_getElem? (i := 277) (by decide +kernel)) rfl)
theorem cw_Law_23 : ∀ w ∈ (([Cond.methodLink R_law 23 y_Engine_mark, Cond.instanceMethod y_Engine_mark, Cond.selects R_Engine y_Engine_mark y_Engine_mark, Cond.initialized R_Engine] : List Cond) ++ [Cond.code y_Engine_mark b_Engine_mark 4 (some .int)]), w ∈ Wl := List.forall_mem_cons.mpr ⟨(mw (List.mem_of_getElem? (i := 278) (by decide +kernel)) rfl), List.forall_mem_cons.mpr ⟨(mw (List.mem_of_getElem? (i := 279) (by decide +kernel)) rfl), List.forall_mem_cons.mpr ⟨(mw (List.mem_of_getElem? (i := 280) (by decide +kernel)) rfl), List.forall_mem_cons.mpr ⟨(mw (List.mem_of_getElem? (i := 35) (by decide +kernel)) rfl), List.forall_mem_cons.mpr ⟨(mw (List.mem_of_getElem? (i := 281) (by decide +kernel)) rfl), fun _ h => absurd h List.not_mem_nil⟩⟩⟩⟩⟩
theorem kc_Engine_mark : Cond.code y_Engine_mark b_Engine_mark 4 (some .int) ∈ Wl := (mw (List.mem_of_getElem? (i := 281) (by decide +kernel)) rfl)
theorem cw_Engine_76 : ∀ w ∈ (([Cond.methodLink R_Engine 76 y_Tree_isNode, Cond.instanceMethod y_Tree_isNode, Cond.selects R_Tree y_Tree_isNode y_Tree_isNode, Cond.initialized R_Tree] : List Cond) ++ [Cond.code y_Tree_isNode b_Tree_isNode 2 (some .boolean)]), w ∈ Wl := List.forall_mem_cons.mpr ⟨(mw (List.mem_of_getElem? (i := 282) (by decide +kernel)) rfl), List.forall_mem_cons.mpr ⟨(mw (List.mem_of_getElem? (i := 236) (by decide +kernel)) rfl), List.forall_mem_cons.mpr ⟨(mw (List.mem_of_getElem? (i := 237) (by decide +kernel)) rfl), List.forall_mem_cons.mpr ⟨(mw (List.mem_of_getElem? (i := 36) (by decide +kernel)) rfl), List.forall_mem_cons.mpr ⟨(mw (List.mem_of_getElem? (i := 238) (by decide +kernel)) rfl), fun _ h => absurd h List.not_mem_nil⟩⟩⟩⟩⟩
theorem cw_Engine_79 : ∀ w ∈ (([Cond.methodLink R_Engine 79 y_Tree_setMarks, Cond.instanceMethod y_Tree_setMarks, Cond.selects R_Tree y_Tree_setMarks y_Tree_setMarks, Cond.initialized R_Tree] : List Cond) ++ [Cond.code y_Tree_setMarks b_Tree_setMarks 4 none]), w ∈ Wl := List.forall_mem_cons.mpr ⟨(mw (List.mem_of_getElem? (i := 283) (by decide +kernel)) rfl), List.forall_mem_cons.mpr ⟨(mw (List.mem_of_getElem? (i := 284) (by decide +kernel)) rfl), List.forall_mem_cons.mpr ⟨(mw (List.mem_of_getElem? (i := 285) (by decide +kernel)) rfl), List.forall_mem_cons.mpr ⟨(mw (List.mem_of_getElem? (i := 36) (by decide +kernel)) rfl), List.forall_mem_cons.mpr ⟨(mw (List.mem_of_getElem? (i := 286) (by decide +kernel)) rfl), fun _ h => absurd h List.not_mem_nil⟩⟩⟩⟩⟩
theorem kc_Tree_setMarks : Cond.code y_Tree_setMarks b_Tree_setMarks 4 none ∈ Wl := (mw (List.mem_of_getElem? (i := 286) (by decide +kernel)) rfl)
theorem cw_Law_27 : ∀ w ∈ (([Cond.methodLink R_law 27 y_Engine_method, Cond.instanceMethod y_Engine_method, Cond.selects R_Engine y_Engine_method y_Engine_method, Cond.initialized R_Engine] : List Cond) ++ [Cond.code y_Engine_method b_Engine_method 6 (some .int)]), w ∈ Wl := List.forall_mem_cons.mpr ⟨(mw (List.mem_of_getElem? (i := 287) (by decide +kernel)) rfl), List.forall_mem_cons.mpr ⟨(mw (List.mem_of_getElem? (i := 288) (by decide +kernel)) rfl), List.forall_mem_cons.mpr ⟨(mw (List.mem_of_getElem? (i := 289) (by decide +kernel)) rfl), List.forall_mem_cons.mpr ⟨(mw (List.mem_of_getElem? (i := 35) (by decide +kernel)) rfl), List.forall_mem_cons.mpr ⟨(mw (List.mem_of_getElem? (i := 290) (by decide +kernel)) rfl), fun _ h => absurd h List.not_mem_nil⟩⟩⟩⟩⟩
theorem kc_Engine_method : Cond.code y_Engine_method b_Engine_method 6 (some .int) ∈ Wl := (mw (List.mem_of_getElem? (i := 290) (by decide +kernel)) rfl)
theorem cw_Engine_83 : ∀ w ∈ (([Cond.methodLink R_Engine 83 y_Tree_mayHave, Cond.instanceMethod y_Tree_mayHave, Cond.selects R_Tree y_Tree_mayHave y_Tree_mayHave, Cond.initialized R_Tree] : List Cond) ++ [Cond.code y_Tree_mayHave b_Tree_mayHave 3 (some .boolean)]), w ∈ Wl := List.forall_mem_cons.mpr ⟨(mw (List.mem_of_getElem? (i := 291) (by decide +kernel)) rfl), List.forall_mem_cons.mpr ⟨(mw (List.mem_of_getElem? (i := 292) (by decide +kernel)) rfl), List.forall_mem_cons.mpr ⟨(mw (List.mem_of_getElem? (i := 293) (by decide +kernel)) rfl), List.forall_mem_cons.mpr ⟨(mw (List.mem_of_getElem? (i := 36) (by decide +kernel)) rfl), List.forall_mem_cons.mpr ⟨(mw (List.mem_of_getElem? (i := 294) (by decide +kernel)) rfl), fun _ h => absurd h List.not_mem_nil⟩⟩⟩⟩⟩
theorem kc_Tree_mayHave : Cond.code y_Tree_mayHave b_Tree_mayHave 3 (some .boolean) ∈ Wl := (mw (List.mem_of_getElem? (i := 294) (by decide +kernel)) rfl)
theorem cw_Engine_87 : ∀ w ∈ (([Cond.methodLink R_Engine 87 y_Methods_give, Cond.instanceMethod y_Methods_give, Cond.selects R_Methods y_Methods_give y_Methods_give, Cond.initialized R_Methods] : List Cond) ++ [Cond.code y_Methods_give b_Methods_give 7 none]), w ∈ Wl := List.forall_mem_cons.mpr ⟨(mw (List.mem_of_getElem? (i := 295) (by decide +kernel)) rfl), List.forall_mem_cons.mpr ⟨(mw (List.mem_of_getElem? (i := 272) (by decide +kernel)) rfl), List.forall_mem_cons.mpr ⟨(mw (List.mem_of_getElem? (i := 273) (by decide +kernel)) rfl), List.forall_mem_cons.mpr ⟨(mw (List.mem_of_getElem? (i := 37) (by decide +kernel)) rfl), List.forall_mem_cons.mpr ⟨(mw (List.mem_of_getElem? (i := 274) (by decide +kernel)) rfl), fun _ h => absurd h List.not_mem_nil⟩⟩⟩⟩⟩
theorem cw_Law_32 : ∀ w ∈ (([Cond.methodLink R_law 32 y_Engine_without, Cond.instanceMethod y_Engine_without, Cond.selects R_Engine y_Engine_without y_Engine_without, Cond.initialized R_Engine] : List Cond) ++ [Cond.code y_Engine_without b_Engine_without 4 (some .int)]), w ∈ Wl := List.forall_mem_cons.mpr ⟨(mw (List.mem_of_getElem? (i := 296) (by decide +kernel)) rfl), List.forall_mem_cons.mpr ⟨(mw (List.mem_of_getElem? (i := 297) (by decide +kernel)) rfl), List.forall_mem_cons.mpr ⟨(mw (List.mem_of_getElem? (i := 298) (by decide +kernel)) rfl), List.forall_mem_cons.mpr ⟨(mw (List.mem_of_getElem? (i := 35) (by decide +kernel)) rfl), List.forall_mem_cons.mpr ⟨(mw (List.mem_of_getElem? (i := 299) (by decide +kernel)) rfl), fun _ h => absurd h List.not_mem_nil⟩⟩⟩⟩⟩
theorem kc_Engine_without : Cond.code y_Engine_without b_Engine_without 4 (some .int) ∈ Wl := (mw (List.mem_of_getElem? (i := 299) (by decide +kernel)) rfl)
theorem cw_Engine_91 : ∀ w ∈ (([Cond.methodLink R_Engine 91 y_Methods_placeOf, Cond.static y_Methods_placeOf, Cond.initialized y_Methods_placeOf.cls] : List Cond) ++ [Cond.code y_Methods_placeOf b_Methods_placeOf 2 (some .int)]), w ∈ Wl := List.forall_mem_cons.mpr ⟨(mw (List.mem_of_getElem? (i := 300) (by decide +kernel)) rfl), List.forall_mem_cons.mpr ⟨(mw (List.mem_of_getElem? (i := 276) (by decide +kernel)) rfl), List.forall_mem_cons.mpr ⟨(mw (List.mem_of_getElem? (i := 37) (by decide +kernel)) rfl), List.forall_mem_cons.mpr ⟨(mw (List.mem_of_getElem? (i := 277) (by decide +kernel)) rfl), fun _ h => absurd h List.not_mem_nil⟩⟩⟩⟩
theorem cw_Engine_95 : ∀ w ∈ (([Cond.methodLink R_Engine 95 y_Methods_isThere, Cond.instanceMethod y_Methods_isThere, Cond.selects R_Methods y_Methods_isThere y_Methods_isThere, Cond.initialized R_Methods] : List Cond) ++ [Cond.code y_Methods_isThere b_Methods_isThere 2 (some .boolean)]), w ∈ Wl := List.forall_mem_cons.mpr ⟨(mw (List.mem_of_getElem? (i := 301) (by decide +kernel)) rfl), List.forall_mem_cons.mpr ⟨(mw (List.mem_of_getElem? (i := 302) (by decide +kernel)) rfl), List.forall_mem_cons.mpr ⟨(mw (List.mem_of_getElem? (i := 303) (by decide +kernel)) rfl), List.forall_mem_cons.mpr ⟨(mw (List.mem_of_getElem? (i := 37) (by decide +kernel)) rfl), List.forall_mem_cons.mpr ⟨(mw (List.mem_of_getElem? (i := 304) (by decide +kernel)) rfl), fun _ h => absurd h List.not_mem_nil⟩⟩⟩⟩⟩
theorem kc_Methods_isThere : Cond.code y_Methods_isThere b_Methods_isThere 2 (some .boolean) ∈ Wl := (mw (List.mem_of_getElem? (i := 304) (by decide +kernel)) rfl)
theorem cw_Engine_98 : ∀ w ∈ (([Cond.methodLink R_Engine 98 y_Methods_takeAt, Cond.instanceMethod y_Methods_takeAt, Cond.selects R_Methods y_Methods_takeAt y_Methods_takeAt, Cond.initialized R_Methods] : List Cond) ++ [Cond.code y_Methods_takeAt b_Methods_takeAt 2 none]), w ∈ Wl := List.forall_mem_cons.mpr ⟨(mw (List.mem_of_getElem? (i := 305) (by decide +kernel)) rfl), List.forall_mem_cons.mpr ⟨(mw (List.mem_of_getElem? (i := 306) (by decide +kernel)) rfl), List.forall_mem_cons.mpr ⟨(mw (List.mem_of_getElem? (i := 307) (by decide +kernel)) rfl), List.forall_mem_cons.mpr ⟨(mw (List.mem_of_getElem? (i := 37) (by decide +kernel)) rfl), List.forall_mem_cons.mpr ⟨(mw (List.mem_of_getElem? (i := 308) (by decide +kernel)) rfl), fun _ h => absurd h List.not_mem_nil⟩⟩⟩⟩⟩
theorem kc_Methods_takeAt : Cond.code y_Methods_takeAt b_Methods_takeAt 2 none ∈ Wl := (mw (List.mem_of_getElem? (i := 308) (by decide +kernel)) rfl)
theorem cw_Law_37 : ∀ w ∈ (([Cond.methodLink R_law 37 y_Engine_run, Cond.instanceMethod y_Engine_run, Cond.selects R_Engine y_Engine_run y_Engine_run, Cond.initialized R_Engine] : List Cond) ++ [Cond.code y_Engine_run b_Engine_run 4 (some .int)]), w ∈ Wl := List.forall_mem_cons.mpr ⟨(mw (List.mem_of_getElem? (i := 309) (by decide +kernel)) rfl), List.forall_mem_cons.mpr ⟨(mw (List.mem_of_getElem? (i := 310) (by decide +kernel)) rfl), List.forall_mem_cons.mpr ⟨(mw (List.mem_of_getElem? (i := 311) (by decide +kernel)) rfl), List.forall_mem_cons.mpr ⟨(mw (List.mem_of_getElem? (i := 35) (by decide +kernel)) rfl), List.forall_mem_cons.mpr ⟨(mw (List.mem_of_getElem? (i := 312) (by decide +kernel)) rfl), fun _ h => absurd h List.not_mem_nil⟩⟩⟩⟩⟩
theorem kc_Engine_run : Cond.code y_Engine_run b_Engine_run 4 (some .int) ∈ Wl := (mw (List.mem_of_getElem? (i := 312) (by decide +kernel)) rfl)
theorem cw_Engine_102 : ∀ w ∈ (([Cond.methodLink R_Engine 102 y_Choice_choose, Cond.instanceMethod y_Choice_choose, Cond.selects R_Choice y_Choice_choose y_Choice_choose, Cond.initialized R_Choice] : List Cond) ++ [Cond.code y_Choice_choose b_Choice_choose 4 none]), w ∈ Wl := List.forall_mem_cons.mpr ⟨(mw (List.mem_of_getElem? (i := 313) (by decide +kernel)) rfl), List.forall_mem_cons.mpr ⟨(mw (List.mem_of_getElem? (i := 314) (by decide +kernel)) rfl), List.forall_mem_cons.mpr ⟨(mw (List.mem_of_getElem? (i := 315) (by decide +kernel)) rfl), List.forall_mem_cons.mpr ⟨(mw (List.mem_of_getElem? (i := 38) (by decide +kernel)) rfl), List.forall_mem_cons.mpr ⟨(mw (List.mem_of_getElem? (i := 316) (by decide +kernel)) rfl), fun _ h => absurd h List.not_mem_nil⟩⟩⟩⟩⟩
theorem kc_Choice_choose : Cond.code y_Choice_choose b_Choice_choose 4 none ∈ Wl := (mw (List.mem_of_getElem? (i := 316) (by decide +kernel)) rfl)
theorem cw_Choice_23 : ∀ w ∈ (([Cond.methodLink R_Choice 23 y_Choice_gatherTags, Cond.instanceMethod y_Choice_gatherTags, Cond.selects R_Choice y_Choice_gatherTags y_Choice_gatherTags, Cond.initialized R_Choice] : List Cond) ++ [Cond.code y_Choice_gatherTags b_Choice_gatherTags 2 none]), w ∈ Wl := List.forall_mem_cons.mpr ⟨(mw (List.mem_of_getElem? (i := 317) (by decide +kernel)) rfl), List.forall_mem_cons.mpr ⟨(mw (List.mem_of_getElem? (i := 319) (by decide +kernel)) rfl), List.forall_mem_cons.mpr ⟨(mw (List.mem_of_getElem? (i := 1) (by decide +kernel)) rfl), List.forall_mem_cons.mpr ⟨(mw (List.mem_of_getElem? (i := 38) (by decide +kernel)) rfl), List.forall_mem_cons.mpr ⟨(mw (List.mem_of_getElem? (i := 320) (by decide +kernel)) rfl), fun _ h => absurd h List.not_mem_nil⟩⟩⟩⟩⟩
theorem kc_Choice_gatherTags : Cond.code y_Choice_gatherTags b_Choice_gatherTags 2 none ∈ Wl := (mw (List.mem_of_getElem? (i := 320) (by decide +kernel)) rfl)
theorem cw_Choice_47 : ∀ w ∈ (([Cond.methodLink R_Choice 47 y_Tree_tagsOf, Cond.instanceMethod y_Tree_tagsOf, Cond.selects R_Tree y_Tree_tagsOf y_Tree_tagsOf, Cond.initialized R_Tree] : List Cond) ++ [Cond.code y_Tree_tagsOf b_Tree_tagsOf 2 (some .int)]), w ∈ Wl := List.forall_mem_cons.mpr ⟨(mw (List.mem_of_getElem? (i := 321) (by decide +kernel)) rfl), List.forall_mem_cons.mpr ⟨(mw (List.mem_of_getElem? (i := 322) (by decide +kernel)) rfl), List.forall_mem_cons.mpr ⟨(mw (List.mem_of_getElem? (i := 323) (by decide +kernel)) rfl), List.forall_mem_cons.mpr ⟨(mw (List.mem_of_getElem? (i := 36) (by decide +kernel)) rfl), List.forall_mem_cons.mpr ⟨(mw (List.mem_of_getElem? (i := 324) (by decide +kernel)) rfl), fun _ h => absurd h List.not_mem_nil⟩⟩⟩⟩⟩
theorem kc_Tree_tagsOf : Cond.code y_Tree_tagsOf b_Tree_tagsOf 2 (some .int) ∈ Wl := (mw (List.mem_of_getElem? (i := 324) (by decide +kernel)) rfl)
theorem cw_Choice_30 : ∀ w ∈ (([Cond.methodLink R_Choice 30 y_Tree_size, Cond.instanceMethod y_Tree_size, Cond.selects R_Tree y_Tree_size y_Tree_size, Cond.initialized R_Tree] : List Cond) ++ [Cond.code y_Tree_size b_Tree_size 1 (some .int)]), w ∈ Wl := List.forall_mem_cons.mpr ⟨(mw (List.mem_of_getElem? (i := 325) (by decide +kernel)) rfl), List.forall_mem_cons.mpr ⟨(mw (List.mem_of_getElem? (i := 326) (by decide +kernel)) rfl), List.forall_mem_cons.mpr ⟨(mw (List.mem_of_getElem? (i := 327) (by decide +kernel)) rfl), List.forall_mem_cons.mpr ⟨(mw (List.mem_of_getElem? (i := 36) (by decide +kernel)) rfl), List.forall_mem_cons.mpr ⟨(mw (List.mem_of_getElem? (i := 328) (by decide +kernel)) rfl), fun _ h => absurd h List.not_mem_nil⟩⟩⟩⟩⟩
theorem kc_Tree_size : Cond.code y_Tree_size b_Tree_size 1 (some .int) ∈ Wl := (mw (List.mem_of_getElem? (i := 328) (by decide +kernel)) rfl)
theorem cw_Choice_51 : ∀ w ∈ (([Cond.methodLink R_Choice 51 y_Tree_parentOf, Cond.instanceMethod y_Tree_parentOf, Cond.selects R_Tree y_Tree_parentOf y_Tree_parentOf, Cond.initialized R_Tree] : List Cond) ++ [Cond.code y_Tree_parentOf b_Tree_parentOf 2 (some .int)]), w ∈ Wl := List.forall_mem_cons.mpr ⟨(mw (List.mem_of_getElem? (i := 329) (by decide +kernel)) rfl), List.forall_mem_cons.mpr ⟨(mw (List.mem_of_getElem? (i := 330) (by decide +kernel)) rfl), List.forall_mem_cons.mpr ⟨(mw (List.mem_of_getElem? (i := 331) (by decide +kernel)) rfl), List.forall_mem_cons.mpr ⟨(mw (List.mem_of_getElem? (i := 36) (by decide +kernel)) rfl), List.forall_mem_cons.mpr ⟨(mw (List.mem_of_getElem? (i := 332) (by decide +kernel)) rfl), fun _ h => absurd h List.not_mem_nil⟩⟩⟩⟩⟩
theorem kc_Tree_parentOf : Cond.code y_Tree_parentOf b_Tree_parentOf 2 (some .int) ∈ Wl := (mw (List.mem_of_getElem? (i := 332) (by decide +kernel)) rfl)
theorem cw_Choice_36 : ∀ w ∈ (([Cond.methodLink R_Choice 36 y_Tree_isContainer, Cond.instanceMethod y_Tree_isContainer, Cond.selects R_Tree y_Tree_isContainer y_Tree_isContainer, Cond.initialized R_Tree] : List Cond) ++ [Cond.code y_Tree_isContainer b_Tree_isContainer 2 (some .boolean)]), w ∈ Wl := List.forall_mem_cons.mpr ⟨(mw (List.mem_of_getElem? (i := 333) (by decide +kernel)) rfl), List.forall_mem_cons.mpr ⟨(mw (List.mem_of_getElem? (i := 232) (by decide +kernel)) rfl), List.forall_mem_cons.mpr ⟨(mw (List.mem_of_getElem? (i := 233) (by decide +kernel)) rfl), List.forall_mem_cons.mpr ⟨(mw (List.mem_of_getElem? (i := 36) (by decide +kernel)) rfl), List.forall_mem_cons.mpr ⟨(mw (List.mem_of_getElem? (i := 234) (by decide +kernel)) rfl), fun _ h => absurd h List.not_mem_nil⟩⟩⟩⟩⟩
theorem cw_Choice_40 : ∀ w ∈ (([Cond.methodLink R_Choice 40 y_Choice_suits, Cond.static y_Choice_suits, Cond.initialized y_Choice_suits.cls] : List Cond) ++ [Cond.code y_Choice_suits b_Choice_suits 3 (some .boolean)]), w ∈ Wl := List.forall_mem_cons.mpr ⟨(mw (List.mem_of_getElem? (i := 334) (by decide +kernel)) rfl), List.forall_mem_cons.mpr ⟨(mw (List.mem_of_getElem? (i := 335) (by decide +kernel)) rfl), List.forall_mem_cons.mpr ⟨(mw (List.mem_of_getElem? (i := 38) (by decide +kernel)) rfl), List.forall_mem_cons.mpr ⟨(mw (List.mem_of_getElem? (i := 336) (by decide +kernel)) rfl), fun _ h => absurd h List.not_mem_nil⟩⟩⟩⟩
theorem ks_Choice_suits : Cond.static y_Choice_suits ∈ Wl := (mw (List.mem_of_getElem? (i := 335) (by decide +kernel)) rfl)
theorem kc_Choice_suits : Cond.code y_Choice_suits b_Choice_suits 3 (some .boolean) ∈ Wl := (mw (List.mem_of_getElem? (i := 336) (by decide +kernel)) rfl)
theorem cw_Choice_44 : ∀ w ∈ (([Cond.methodLink R_Choice 44 y_Choice_chooseContainers, Cond.instanceMethod y_Choice_chooseContainers, Cond.selects R_Choice y_Choice_chooseContainers y_Choice_chooseContainers, Cond.initialized R_Choice] : List Cond) ++ [Cond.code y_Choice_chooseContainers b_Choice_chooseContainers 2 none]), w ∈ Wl := List.forall_mem_cons.mpr ⟨(mw (List.mem_of_getElem? (i := 337) (by decide +kernel)) rfl), List.forall_mem_cons.mpr ⟨(mw (List.mem_of_getElem? (i := 339) (by decide +kernel)) rfl), List.forall_mem_cons.mpr ⟨(mw (List.mem_of_getElem? (i := 2) (by decide +kernel)) rfl), List.forall_mem_cons.mpr ⟨(mw (List.mem_of_getElem? (i := 38) (by decide +kernel)) rfl), List.forall_mem_cons.mpr ⟨(mw (List.mem_of_getElem? (i := 340) (by decide +kernel)) rfl), fun _ h => absurd h List.not_mem_nil⟩⟩⟩⟩⟩
theorem kc_Choice_chooseContainers : Cond.code y_Choice_chooseContainers b_Choice_chooseContainers 2 none ∈ Wl := (mw (List.mem_of_getElem? (i := 340) (by decide +kernel)) rfl)
theorem cw_Engine_105 : ∀ w ∈ (([Cond.methodLink R_Engine 105 y_Journal_clear, Cond.instanceMethod y_Journal_clear, Cond.selects R_Journal y_Journal_clear y_Journal_clear, Cond.initialized R_Journal] : List Cond) ++ [Cond.code y_Journal_clear b_Journal_clear 2 none]), w ∈ Wl := List.forall_mem_cons.mpr ⟨(mw (List.mem_of_getElem? (i := 341) (by decide +kernel)) rfl), List.forall_mem_cons.mpr ⟨(mw (List.mem_of_getElem? (i := 342) (by decide +kernel)) rfl), List.forall_mem_cons.mpr ⟨(mw (List.mem_of_getElem? (i := 343) (by decide +kernel)) rfl), List.forall_mem_cons.mpr ⟨(mw (List.mem_of_getElem? (i := 39) (by decide +kernel)) rfl), List.forall_mem_cons.mpr ⟨(mw (List.mem_of_getElem? (i := 344) (by decide +kernel)) rfl), fun _ h => absurd h List.not_mem_nil⟩⟩⟩⟩⟩
theorem kc_Journal_clear : Cond.code y_Journal_clear b_Journal_clear 2 none ∈ Wl := (mw (List.mem_of_getElem? (i := 344) (by decide +kernel)) rfl)
theorem cw_Engine_108 : ∀ w ∈ (([Cond.methodLink R_Engine 108 y_Runner_reset, Cond.instanceMethod y_Runner_reset, Cond.selects R_Runner y_Runner_reset y_Runner_reset, Cond.initialized R_Runner] : List Cond) ++ [Cond.code y_Runner_reset b_Runner_reset 2 none]), w ∈ Wl := List.forall_mem_cons.mpr ⟨(mw (List.mem_of_getElem? (i := 345) (by decide +kernel)) rfl), List.forall_mem_cons.mpr ⟨(mw (List.mem_of_getElem? (i := 346) (by decide +kernel)) rfl), List.forall_mem_cons.mpr ⟨(mw (List.mem_of_getElem? (i := 347) (by decide +kernel)) rfl), List.forall_mem_cons.mpr ⟨(mw (List.mem_of_getElem? (i := 40) (by decide +kernel)) rfl), List.forall_mem_cons.mpr ⟨(mw (List.mem_of_getElem? (i := 348) (by decide +kernel)) rfl), fun _ h => absurd h List.not_mem_nil⟩⟩⟩⟩⟩
theorem kc_Runner_reset : Cond.code y_Runner_reset b_Runner_reset 2 none ∈ Wl := (mw (List.mem_of_getElem? (i := 348) (by decide +kernel)) rfl)
theorem cw_Engine_111 : ∀ w ∈ (([Cond.methodLink R_Engine 111 y_Runner_doNode, Cond.instanceMethod y_Runner_doNode, Cond.selects R_Runner y_Runner_doNode y_Runner_doNode, Cond.initialized R_Runner] : List Cond) ++ [Cond.code y_Runner_doNode b_Runner_doNode 3 none]), w ∈ Wl := List.forall_mem_cons.mpr ⟨(mw (List.mem_of_getElem? (i := 349) (by decide +kernel)) rfl), List.forall_mem_cons.mpr ⟨(mw (List.mem_of_getElem? (i := 350) (by decide +kernel)) rfl), List.forall_mem_cons.mpr ⟨(mw (List.mem_of_getElem? (i := 351) (by decide +kernel)) rfl), List.forall_mem_cons.mpr ⟨(mw (List.mem_of_getElem? (i := 40) (by decide +kernel)) rfl), List.forall_mem_cons.mpr ⟨(mw (List.mem_of_getElem? (i := 352) (by decide +kernel)) rfl), fun _ h => absurd h List.not_mem_nil⟩⟩⟩⟩⟩
theorem kc_Runner_doNode : Cond.code y_Runner_doNode b_Runner_doNode 3 none ∈ Wl := (mw (List.mem_of_getElem? (i := 352) (by decide +kernel)) rfl)
theorem mn_Runner_54 : Cond.methodLinkNest R_Runner 54 y_Engine_isWithin "LifecycleEngine" ∈ lw_tbl := (List.mem_of_getElem? (i := 353) (by decide +kernel))
theorem cw_Runner_58 : ∀ w ∈ (([Cond.methodLink R_Runner 58 y_Choice_isChosen, Cond.instanceMethod y_Choice_isChosen, Cond.selects R_Choice y_Choice_isChosen y_Choice_isChosen, Cond.initialized R_Choice] : List Cond) ++ [Cond.code y_Choice_isChosen b_Choice_isChosen 2 (some .boolean)]), w ∈ Wl := List.forall_mem_cons.mpr ⟨(mw (List.mem_of_getElem? (i := 354) (by decide +kernel)) rfl), List.forall_mem_cons.mpr ⟨(mw (List.mem_of_getElem? (i := 355) (by decide +kernel)) rfl), List.forall_mem_cons.mpr ⟨(mw (List.mem_of_getElem? (i := 356) (by decide +kernel)) rfl), List.forall_mem_cons.mpr ⟨(mw (List.mem_of_getElem? (i := 38) (by decide +kernel)) rfl), List.forall_mem_cons.mpr ⟨(mw (List.mem_of_getElem? (i := 357) (by decide +kernel)) rfl), fun _ h => absurd h List.not_mem_nil⟩⟩⟩⟩⟩
theorem kc_Choice_isChosen : Cond.code y_Choice_isChosen b_Choice_isChosen 2 (some .boolean) ∈ Wl := (mw (List.mem_of_getElem? (i := 357) (by decide +kernel)) rfl)
theorem cw_Runner_64 : ∀ w ∈ (([Cond.methodLink R_Runner 64 y_Tree_isDisabled, Cond.instanceMethod y_Tree_isDisabled, Cond.selects R_Tree y_Tree_isDisabled y_Tree_isDisabled, Cond.initialized R_Tree] : List Cond) ++ [Cond.code y_Tree_isDisabled b_Tree_isDisabled 2 (some .boolean)]), w ∈ Wl := List.forall_mem_cons.mpr ⟨(mw (List.mem_of_getElem? (i := 358) (by decide +kernel)) rfl), List.forall_mem_cons.mpr ⟨(mw (List.mem_of_getElem? (i := 359) (by decide +kernel)) rfl), List.forall_mem_cons.mpr ⟨(mw (List.mem_of_getElem? (i := 360) (by decide +kernel)) rfl), List.forall_mem_cons.mpr ⟨(mw (List.mem_of_getElem? (i := 36) (by decide +kernel)) rfl), List.forall_mem_cons.mpr ⟨(mw (List.mem_of_getElem? (i := 361) (by decide +kernel)) rfl), fun _ h => absurd h List.not_mem_nil⟩⟩⟩⟩⟩
theorem kc_Tree_isDisabled : Cond.code y_Tree_isDisabled b_Tree_isDisabled 2 (some .boolean) ∈ Wl := (mw (List.mem_of_getElem? (i := 361) (by decide +kernel)) rfl)
theorem cw_Runner_69 : ∀ w ∈ (([Cond.methodLink R_Runner 69 y_Runner_isBroken, Cond.instanceMethod y_Runner_isBroken, Cond.selects R_Runner y_Runner_isBroken y_Runner_isBroken, Cond.initialized R_Runner] : List Cond) ++ [Cond.code y_Runner_isBroken b_Runner_isBroken 1 (some .boolean)]), w ∈ Wl := List.forall_mem_cons.mpr ⟨(mw (List.mem_of_getElem? (i := 362) (by decide +kernel)) rfl), List.forall_mem_cons.mpr ⟨(mw (List.mem_of_getElem? (i := 364) (by decide +kernel)) rfl), List.forall_mem_cons.mpr ⟨(mw (List.mem_of_getElem? (i := 3) (by decide +kernel)) rfl), List.forall_mem_cons.mpr ⟨(mw (List.mem_of_getElem? (i := 40) (by decide +kernel)) rfl), List.forall_mem_cons.mpr ⟨(mw (List.mem_of_getElem? (i := 365) (by decide +kernel)) rfl), fun _ h => absurd h List.not_mem_nil⟩⟩⟩⟩⟩
theorem kc_Runner_isBroken : Cond.code y_Runner_isBroken b_Runner_isBroken 1 (some .boolean) ∈ Wl := (mw (List.mem_of_getElem? (i := 365) (by decide +kernel)) rfl)
theorem cw_Runner_89 : ∀ w ∈ (([Cond.methodLink R_Runner 89 y_Journal_roundsWith, Cond.instanceMethod y_Journal_roundsWith, Cond.selects R_Journal y_Journal_roundsWith y_Journal_roundsWith, Cond.initialized R_Journal] : List Cond) ++ [Cond.code y_Journal_roundsWith b_Journal_roundsWith 2 (some .int)]), w ∈ Wl := List.forall_mem_cons.mpr ⟨(mw (List.mem_of_getElem? (i := 366) (by decide +kernel)) rfl), List.forall_mem_cons.mpr ⟨(mw (List.mem_of_getElem? (i := 367) (by decide +kernel)) rfl), List.forall_mem_cons.mpr ⟨(mw (List.mem_of_getElem? (i := 368) (by decide +kernel)) rfl), List.forall_mem_cons.mpr ⟨(mw (List.mem_of_getElem? (i := 39) (by decide +kernel)) rfl), List.forall_mem_cons.mpr ⟨(mw (List.mem_of_getElem? (i := 369) (by decide +kernel)) rfl), fun _ h => absurd h List.not_mem_nil⟩⟩⟩⟩⟩
theorem kc_Journal_roundsWith : Cond.code y_Journal_roundsWith b_Journal_roundsWith 2 (some .int) ∈ Wl := (mw (List.mem_of_getElem? (i := 369) (by decide +kernel)) rfl)
theorem cw_Runner_73 : ∀ w ∈ (([Cond.methodLink R_Runner 73 y_Journal_writeSkipped, Cond.instanceMethod y_Journal_writeSkipped, Cond.selects R_Journal y_Journal_writeSkipped y_Journal_writeSkipped, Cond.initialized R_Journal] : List Cond) ++ [Cond.code y_Journal_writeSkipped b_Journal_writeSkipped 4 none]), w ∈ Wl := List.forall_mem_cons.mpr ⟨(mw (List.mem_of_getElem? (i := 370) (by decide +kernel)) rfl), List.forall_mem_cons.mpr ⟨(mw (List.mem_of_getElem? (i := 371) (by decide +kernel)) rfl), List.forall_mem_cons.mpr ⟨(mw (List.mem_of_getElem? (i := 372) (by decide +kernel)) rfl), List.forall_mem_cons.mpr ⟨(mw (List.mem_of_getElem? (i := 39) (by decide +kernel)) rfl), List.forall_mem_cons.mpr ⟨(mw (List.mem_of_getElem? (i := 373) (by decide +kernel)) rfl), fun _ h => absurd h List.not_mem_nil⟩⟩⟩⟩⟩
theorem kc_Journal_writeSkipped : Cond.code y_Journal_writeSkipped b_Journal_writeSkipped 4 none ∈ Wl := (mw (List.mem_of_getElem? (i := 373) (by decide +kernel)) rfl)
theorem cw_Journal_35 : ∀ w ∈ (([Cond.methodLink R_Journal 35 y_Journal_writeEvent, Cond.instanceMethod y_Journal_writeEvent, Cond.selects R_Journal y_Journal_writeEvent y_Journal_writeEvent, Cond.initialized R_Journal] : List Cond) ++ [Cond.code y_Journal_writeEvent b_Journal_writeEvent 7 none]), w ∈ Wl := List.forall_mem_cons.mpr ⟨(mw (List.mem_of_getElem? (i := 374) (by decide +kernel)) rfl), List.forall_mem_cons.mpr ⟨(mw (List.mem_of_getElem? (i := 376) (by decide +kernel)) rfl), List.forall_mem_cons.mpr ⟨(mw (List.mem_of_getElem? (i := 4) (by decide +kernel)) rfl), List.forall_mem_cons.mpr ⟨(mw (List.mem_of_getElem? (i := 39) (by decide +kernel)) rfl), List.forall_mem_cons.mpr ⟨(mw (List.mem_of_getElem? (i := 377) (by decide +kernel)) rfl), fun _ h => absurd h List.not_mem_nil⟩⟩⟩⟩⟩
theorem kc_Journal_writeEvent : Cond.code y_Journal_writeEvent b_Journal_writeEvent 7 none ∈ Wl := (mw (List.mem_of_getElem? (i := 377) (by decide +kernel)) rfl)
theorem cw_Runner_79 : ∀ w ∈ (([Cond.methodLink R_Runner 79 y_Tree_isContainer, Cond.instanceMethod y_Tree_isContainer, Cond.selects R_Tree y_Tree_isContainer y_Tree_isContainer, Cond.initialized R_Tree] : List Cond) ++ [Cond.code y_Tree_isContainer b_Tree_isContainer 2 (some .boolean)]), w ∈ Wl := List.forall_mem_cons.mpr ⟨(mw (List.mem_of_getElem? (i := 378) (by decide +kernel)) rfl), List.forall_mem_cons.mpr ⟨(mw (List.mem_of_getElem? (i := 232) (by decide +kernel)) rfl), List.forall_mem_cons.mpr ⟨(mw (List.mem_of_getElem? (i := 233) (by decide +kernel)) rfl), List.forall_mem_cons.mpr ⟨(mw (List.mem_of_getElem? (i := 36) (by decide +kernel)) rfl), List.forall_mem_cons.mpr ⟨(mw (List.mem_of_getElem? (i := 234) (by decide +kernel)) rfl), fun _ h => absurd h List.not_mem_nil⟩⟩⟩⟩⟩
theorem cw_Runner_82 : ∀ w ∈ (([Cond.methodLink R_Runner 82 y_Runner_doContainer, Cond.instanceMethod y_Runner_doContainer, Cond.selects R_Runner y_Runner_doContainer y_Runner_doContainer, Cond.initialized R_Runner] : List Cond) ++ [Cond.code y_Runner_doContainer b_Runner_doContainer 4 none]), w ∈ Wl := List.forall_mem_cons.mpr ⟨(mw (List.mem_of_getElem? (i := 379) (by decide +kernel)) rfl), List.forall_mem_cons.mpr ⟨(mw (List.mem_of_getElem? (i := 381) (by decide +kernel)) rfl), List.forall_mem_cons.mpr ⟨(mw (List.mem_of_getElem? (i := 5) (by decide +kernel)) rfl), List.forall_mem_cons.mpr ⟨(mw (List.mem_of_getElem? (i := 40) (by decide +kernel)) rfl), List.forall_mem_cons.mpr ⟨(mw (List.mem_of_getElem? (i := 382) (by decide +kernel)) rfl), fun _ h => absurd h List.not_mem_nil⟩⟩⟩⟩⟩
theorem kc_Runner_doContainer : Cond.code y_Runner_doContainer b_Runner_doContainer 4 none ∈ Wl := (mw (List.mem_of_getElem? (i := 382) (by decide +kernel)) rfl)
theorem cw_Runner_93 : ∀ w ∈ (([Cond.methodLink R_Runner 93 y_Journal_writeStarted, Cond.instanceMethod y_Journal_writeStarted, Cond.selects R_Journal y_Journal_writeStarted y_Journal_writeStarted, Cond.initialized R_Journal] : List Cond) ++ [Cond.code y_Journal_writeStarted b_Journal_writeStarted 4 none]), w ∈ Wl := List.forall_mem_cons.mpr ⟨(mw (List.mem_of_getElem? (i := 383) (by decide +kernel)) rfl), List.forall_mem_cons.mpr ⟨(mw (List.mem_of_getElem? (i := 384) (by decide +kernel)) rfl), List.forall_mem_cons.mpr ⟨(mw (List.mem_of_getElem? (i := 385) (by decide +kernel)) rfl), List.forall_mem_cons.mpr ⟨(mw (List.mem_of_getElem? (i := 39) (by decide +kernel)) rfl), List.forall_mem_cons.mpr ⟨(mw (List.mem_of_getElem? (i := 386) (by decide +kernel)) rfl), fun _ h => absurd h List.not_mem_nil⟩⟩⟩⟩⟩
theorem kc_Journal_writeStarted : Cond.code y_Journal_writeStarted b_Journal_writeStarted 4 none ∈ Wl := (mw (List.mem_of_getElem? (i := 386) (by decide +kernel)) rfl)
theorem cw_Runner_96 : ∀ w ∈ (([Cond.methodLink R_Runner 96 y_Tree_isShared, Cond.instanceMethod y_Tree_isShared, Cond.selects R_Tree y_Tree_isShared y_Tree_isShared, Cond.initialized R_Tree] : List Cond) ++ [Cond.code y_Tree_isShared b_Tree_isShared 2 (some .boolean)]), w ∈ Wl := List.forall_mem_cons.mpr ⟨(mw (List.mem_of_getElem? (i := 387) (by decide +kernel)) rfl), List.forall_mem_cons.mpr ⟨(mw (List.mem_of_getElem? (i := 388) (by decide +kernel)) rfl), List.forall_mem_cons.mpr ⟨(mw (List.mem_of_getElem? (i := 389) (by decide +kernel)) rfl), List.forall_mem_cons.mpr ⟨(mw (List.mem_of_getElem? (i := 36) (by decide +kernel)) rfl), List.forall_mem_cons.mpr ⟨(mw (List.mem_of_getElem? (i := 390) (by decide +kernel)) rfl), fun _ h => absurd h List.not_mem_nil⟩⟩⟩⟩⟩
theorem kc_Tree_isShared : Cond.code y_Tree_isShared b_Tree_isShared 2 (some .boolean) ∈ Wl := (mw (List.mem_of_getElem? (i := 390) (by decide +kernel)) rfl)
theorem cw_Runner_99 : ∀ w ∈ (([Cond.methodLink R_Runner 99 y_Runner_makeInstance, Cond.instanceMethod y_Runner_makeInstance, Cond.selects R_Runner y_Runner_makeInstance y_Runner_makeInstance, Cond.initialized R_Runner] : List Cond) ++ [Cond.code y_Runner_makeInstance b_Runner_makeInstance 2 none]), w ∈ Wl := List.forall_mem_cons.mpr ⟨(mw (List.mem_of_getElem? (i := 391) (by decide +kernel)) rfl), List.forall_mem_cons.mpr ⟨(mw (List.mem_of_getElem? (i := 393) (by decide +kernel)) rfl), List.forall_mem_cons.mpr ⟨(mw (List.mem_of_getElem? (i := 6) (by decide +kernel)) rfl), List.forall_mem_cons.mpr ⟨(mw (List.mem_of_getElem? (i := 40) (by decide +kernel)) rfl), List.forall_mem_cons.mpr ⟨(mw (List.mem_of_getElem? (i := 394) (by decide +kernel)) rfl), fun _ h => absurd h List.not_mem_nil⟩⟩⟩⟩⟩
theorem kc_Runner_makeInstance : Cond.code y_Runner_makeInstance b_Runner_makeInstance 2 none ∈ Wl := (mw (List.mem_of_getElem? (i := 394) (by decide +kernel)) rfl)
theorem cw_Runner_103 : ∀ w ∈ (([Cond.methodLink R_Runner 103 y_Troubles_clear, Cond.instanceMethod y_Troubles_clear, Cond.selects R_Troubles y_Troubles_clear y_Troubles_clear, Cond.initialized R_Troubles] : List Cond) ++ [Cond.code y_Troubles_clear b_Troubles_clear 1 none]), w ∈ Wl := List.forall_mem_cons.mpr ⟨(mw (List.mem_of_getElem? (i := 395) (by decide +kernel)) rfl), List.forall_mem_cons.mpr ⟨(mw (List.mem_of_getElem? (i := 396) (by decide +kernel)) rfl), List.forall_mem_cons.mpr ⟨(mw (List.mem_of_getElem? (i := 397) (by decide +kernel)) rfl), List.forall_mem_cons.mpr ⟨(mw (List.mem_of_getElem? (i := 41) (by decide +kernel)) rfl), List.forall_mem_cons.mpr ⟨(mw (List.mem_of_getElem? (i := 398) (by decide +kernel)) rfl), fun _ h => absurd h List.not_mem_nil⟩⟩⟩⟩⟩
theorem kc_Troubles_clear : Cond.code y_Troubles_clear b_Troubles_clear 1 none ∈ Wl := (mw (List.mem_of_getElem? (i := 398) (by decide +kernel)) rfl)
theorem cw_Runner_106 : ∀ w ∈ (([Cond.methodLink R_Runner 106 y_Runner_callIfThere, Cond.instanceMethod y_Runner_callIfThere, Cond.selects R_Runner y_Runner_callIfThere y_Runner_callIfThere, Cond.initialized R_Runner] : List Cond) ++ [Cond.code y_Runner_callIfThere b_Runner_callIfThere 7 none]), w ∈ Wl := List.forall_mem_cons.mpr ⟨(mw (List.mem_of_getElem? (i := 399) (by decide +kernel)) rfl), List.forall_mem_cons.mpr ⟨(mw (List.mem_of_getElem? (i := 401) (by decide +kernel)) rfl), List.forall_mem_cons.mpr ⟨(mw (List.mem_of_getElem? (i := 7) (by decide +kernel)) rfl), List.forall_mem_cons.mpr ⟨(mw (List.mem_of_getElem? (i := 40) (by decide +kernel)) rfl), List.forall_mem_cons.mpr ⟨(mw (List.mem_of_getElem? (i := 402) (by decide +kernel)) rfl), fun _ h => absurd h List.not_mem_nil⟩⟩⟩⟩⟩
theorem kc_Runner_callIfThere : Cond.code y_Runner_callIfThere b_Runner_callIfThere 7 none ∈ Wl := (mw (List.mem_of_getElem? (i := 402) (by decide +kernel)) rfl)
theorem cw_Runner_158 : ∀ w ∈ (([Cond.methodLink R_Runner 158 y_Methods_placeOf, Cond.static y_Methods_placeOf, Cond.initialized y_Methods_placeOf.cls] : List Cond) ++ [Cond.code y_Methods_placeOf b_Methods_placeOf 2 (some .int)]), w ∈ Wl := List.forall_mem_cons.mpr ⟨(mw (List.mem_of_getElem? (i := 403) (by decide +kernel)) rfl), List.forall_mem_cons.mpr ⟨(mw (List.mem_of_getElem? (i := 276) (by decide +kernel)) rfl), List.forall_mem_cons.mpr ⟨(mw (List.mem_of_getElem? (i := 37) (by decide +kernel)) rfl), List.forall_mem_cons.mpr ⟨(mw (List.mem_of_getElem? (i := 277) (by decide +kernel)) rfl), fun _ h => absurd h List.not_mem_nil⟩⟩⟩⟩
theorem cw_Runner_163 : ∀ w ∈ (([Cond.methodLink R_Runner 163 y_Methods_isThere, Cond.instanceMethod y_Methods_isThere, Cond.selects R_Methods y_Methods_isThere y_Methods_isThere, Cond.initialized R_Methods] : List Cond) ++ [Cond.code y_Methods_isThere b_Methods_isThere 2 (some .boolean)]), w ∈ Wl := List.forall_mem_cons.mpr ⟨(mw (List.mem_of_getElem? (i := 404) (by decide +kernel)) rfl), List.forall_mem_cons.mpr ⟨(mw (List.mem_of_getElem? (i := 302) (by decide +kernel)) rfl), List.forall_mem_cons.mpr ⟨(mw (List.mem_of_getElem? (i := 303) (by decide +kernel)) rfl), List.forall_mem_cons.mpr ⟨(mw (List.mem_of_getElem? (i := 37) (by decide +kernel)) rfl), List.forall_mem_cons.mpr ⟨(mw (List.mem_of_getElem? (i := 304) (by decide +kernel)) rfl), fun _ h => absurd h List.not_mem_nil⟩⟩⟩⟩⟩
theorem cw_Runner_166 : ∀ w ∈ (([Cond.methodLink R_Runner 166 y_Methods_lengthAt, Cond.instanceMethod y_Methods_lengthAt, Cond.selects R_Methods y_Methods_lengthAt y_Methods_lengthAt, Cond.initialized R_Methods] : List Cond) ++ [Cond.code y_Methods_lengthAt b_Methods_lengthAt 2 (some .int)]), w ∈ Wl := List.forall_mem_cons.mpr ⟨(mw (List.mem_of_getElem? (i := 405) (by decide +kernel)) rfl), List.forall_mem_cons.mpr ⟨(mw (List.mem_of_getElem? (i := 406) (by decide +kernel)) rfl), List.forall_mem_cons.mpr ⟨(mw (List.mem_of_getElem? (i := 407) (by decide +kernel)) rfl), List.forall_mem_cons.mpr ⟨(mw (List.mem_of_getElem? (i := 37) (by decide +kernel)) rfl), List.forall_mem_cons.mpr ⟨(mw (List.mem_of_getElem? (i := 408) (by decide +kernel)) rfl), fun _ h => absurd h List.not_mem_nil⟩⟩⟩⟩⟩
theorem kc_Methods_lengthAt : Cond.code y_Methods_lengthAt b_Methods_lengthAt 2 (some .int) ∈ Wl := (mw (List.mem_of_getElem? (i := 408) (by decide +kernel)) rfl)
theorem cw_Runner_169 : ∀ w ∈ (([Cond.methodLink R_Runner 169 y_Tree_deadlineOf, Cond.instanceMethod y_Tree_deadlineOf, Cond.selects R_Tree y_Tree_deadlineOf y_Tree_deadlineOf, Cond.initialized R_Tree] : List Cond) ++ [Cond.code y_Tree_deadlineOf b_Tree_deadlineOf 2 (some .int)]), w ∈ Wl := List.forall_mem_cons.mpr ⟨(mw (List.mem_of_getElem? (i := 409) (by decide +kernel)) rfl), List.forall_mem_cons.mpr ⟨(mw (List.mem_of_getElem? (i := 410) (by decide +kernel)) rfl), List.forall_mem_cons.mpr ⟨(mw (List.mem_of_getElem? (i := 411) (by decide +kernel)) rfl), List.forall_mem_cons.mpr ⟨(mw (List.mem_of_getElem? (i := 36) (by decide +kernel)) rfl), List.forall_mem_cons.mpr ⟨(mw (List.mem_of_getElem? (i := 412) (by decide +kernel)) rfl), fun _ h => absurd h List.not_mem_nil⟩⟩⟩⟩⟩
theorem kc_Tree_deadlineOf : Cond.code y_Tree_deadlineOf b_Tree_deadlineOf 2 (some .int) ∈ Wl := (mw (List.mem_of_getElem? (i := 412) (by decide +kernel)) rfl)
theorem cw_Runner_172 : ∀ w ∈ (([Cond.methodLink R_Runner 172 y_Troubles_join, Cond.instanceMethod y_Troubles_join, Cond.selects R_Troubles y_Troubles_join y_Troubles_join, Cond.initialized R_Troubles] : List Cond) ++ [Cond.code y_Troubles_join b_Troubles_join 3 none]), w ∈ Wl := List.forall_mem_cons.mpr ⟨(mw (List.mem_of_getElem? (i := 413) (by decide +kernel)) rfl), List.forall_mem_cons.mpr ⟨(mw (List.mem_of_getElem? (i := 414) (by decide +kernel)) rfl), List.forall_mem_cons.mpr ⟨(mw (List.mem_of_getElem? (i := 415) (by decide +kernel)) rfl), List.forall_mem_cons.mpr ⟨(mw (List.mem_of_getElem? (i := 41) (by decide +kernel)) rfl), List.forall_mem_cons.mpr ⟨(mw (List.mem_of_getElem? (i := 416) (by decide +kernel)) rfl), fun _ h => absurd h List.not_mem_nil⟩⟩⟩⟩⟩
theorem kc_Troubles_join : Cond.code y_Troubles_join b_Troubles_join 3 none ∈ Wl := (mw (List.mem_of_getElem? (i := 416) (by decide +kernel)) rfl)
theorem cw_Runner_176 : ∀ w ∈ (([Cond.methodLink R_Runner 176 y_Methods_resultAt, Cond.instanceMethod y_Methods_resultAt, Cond.selects R_Methods y_Methods_resultAt y_Methods_resultAt, Cond.initialized R_Methods] : List Cond) ++ [Cond.code y_Methods_resultAt b_Methods_resultAt 2 (some .int)]), w ∈ Wl := List.forall_mem_cons.mpr ⟨(mw (List.mem_of_getElem? (i := 417) (by decide +kernel)) rfl), List.forall_mem_cons.mpr ⟨(mw (List.mem_of_getElem? (i := 418) (by decide +kernel)) rfl), List.forall_mem_cons.mpr ⟨(mw (List.mem_of_getElem? (i := 419) (by decide +kernel)) rfl), List.forall_mem_cons.mpr ⟨(mw (List.mem_of_getElem? (i := 37) (by decide +kernel)) rfl), List.forall_mem_cons.mpr ⟨(mw (List.mem_of_getElem? (i := 420) (by decide +kernel)) rfl), fun _ h => absurd h List.not_mem_nil⟩⟩⟩⟩⟩
theorem kc_Methods_resultAt : Cond.code y_Methods_resultAt b_Methods_resultAt 2 (some .int) ∈ Wl := (mw (List.mem_of_getElem? (i := 420) (by decide +kernel)) rfl)
theorem cw_Runner_179 : ∀ w ∈ (([Cond.methodLink R_Runner 179 y_Methods_codeAt, Cond.instanceMethod y_Methods_codeAt, Cond.selects R_Methods y_Methods_codeAt y_Methods_codeAt, Cond.initialized R_Methods] : List Cond) ++ [Cond.code y_Methods_codeAt b_Methods_codeAt 2 (some .int)]), w ∈ Wl := List.forall_mem_cons.mpr ⟨(mw (List.mem_of_getElem? (i := 421) (by decide +kernel)) rfl), List.forall_mem_cons.mpr ⟨(mw (List.mem_of_getElem? (i := 422) (by decide +kernel)) rfl), List.forall_mem_cons.mpr ⟨(mw (List.mem_of_getElem? (i := 423) (by decide +kernel)) rfl), List.forall_mem_cons.mpr ⟨(mw (List.mem_of_getElem? (i := 37) (by decide +kernel)) rfl), List.forall_mem_cons.mpr ⟨(mw (List.mem_of_getElem? (i := 424) (by decide +kernel)) rfl), fun _ h => absurd h List.not_mem_nil⟩⟩⟩⟩⟩
theorem kc_Methods_codeAt : Cond.code y_Methods_codeAt b_Methods_codeAt 2 (some .int) ∈ Wl := (mw (List.mem_of_getElem? (i := 424) (by decide +kernel)) rfl)
theorem cw_Runner_110 : ∀ w ∈ (([Cond.methodLink R_Runner 110 y_Troubles_isEmpty, Cond.instanceMethod y_Troubles_isEmpty, Cond.selects R_Troubles y_Troubles_isEmpty y_Troubles_isEmpty, Cond.initialized R_Troubles] : List Cond) ++ [Cond.code y_Troubles_isEmpty b_Troubles_isEmpty 1 (some .boolean)]), w ∈ Wl := List.forall_mem_cons.mpr ⟨(mw (List.mem_of_getElem? (i := 425) (by decide +kernel)) rfl), List.forall_mem_cons.mpr ⟨(mw (List.mem_of_getElem? (i := 426) (by decide +kernel)) rfl), List.forall_mem_cons.mpr ⟨(mw (List.mem_of_getElem? (i := 427) (by decide +kernel)) rfl), List.forall_mem_cons.mpr ⟨(mw (List.mem_of_getElem? (i := 41) (by decide +kernel)) rfl), List.forall_mem_cons.mpr ⟨(mw (List.mem_of_getElem? (i := 428) (by decide +kernel)) rfl), fun _ h => absurd h List.not_mem_nil⟩⟩⟩⟩⟩
theorem kc_Troubles_isEmpty : Cond.code y_Troubles_isEmpty b_Troubles_isEmpty 1 (some .boolean) ∈ Wl := (mw (List.mem_of_getElem? (i := 428) (by decide +kernel)) rfl)
theorem cw_Runner_113 : ∀ w ∈ (([Cond.methodLink R_Runner 113 y_Runner_doChildren, Cond.instanceMethod y_Runner_doChildren, Cond.selects R_Runner y_Runner_doChildren y_Runner_doChildren, Cond.initialized R_Runner] : List Cond) ++ [Cond.code y_Runner_doChildren b_Runner_doChildren 5 none]), w ∈ Wl := List.forall_mem_cons.mpr ⟨(mw (List.mem_of_getElem? (i := 429) (by decide +kernel)) rfl), List.forall_mem_cons.mpr ⟨(mw (List.mem_of_getElem? (i := 431) (by decide +kernel)) rfl), List.forall_mem_cons.mpr ⟨(mw (List.mem_of_getElem? (i := 8) (by decide +kernel)) rfl), List.forall_mem_cons.mpr ⟨(mw (List.mem_of_getElem? (i := 40) (by decide +kernel)) rfl), List.forall_mem_cons.mpr ⟨(mw (List.mem_of_getElem? (i := 432) (by decide +kernel)) rfl), fun _ h => absurd h List.not_mem_nil⟩⟩⟩⟩⟩
theorem kc_Runner_doChildren : Cond.code y_Runner_doChildren b_Runner_doChildren 5 none ∈ Wl := (mw (List.mem_of_getElem? (i := 432) (by decide +kernel)) rfl)
theorem cw_Runner_120 : ∀ w ∈ (([Cond.methodLink R_Runner 120 y_Tree_childAfter, Cond.instanceMethod y_Tree_childAfter, Cond.selects R_Tree y_Tree_childAfter y_Tree_childAfter, Cond.initialized R_Tree] : List Cond) ++ [Cond.code y_Tree_childAfter b_Tree_childAfter 6 (some .int)]), w ∈ Wl := List.forall_mem_cons.mpr ⟨(mw (List.mem_of_getElem? (i := 433) (by decide +kernel)) rfl), List.forall_mem_cons.mpr ⟨(mw (List.mem_of_getElem? (i := 434) (by decide +kernel)) rfl), List.forall_mem_cons.mpr ⟨(mw (List.mem_of_getElem? (i := 435) (by decide +kernel)) rfl), List.forall_mem_cons.mpr ⟨(mw (List.mem_of_getElem? (i := 36) (by decide +kernel)) rfl), List.forall_mem_cons.mpr ⟨(mw (List.mem_of_getElem? (i := 436) (by decide +kernel)) rfl), fun _ h => absurd h List.not_mem_nil⟩⟩⟩⟩⟩
theorem kc_Tree_childAfter : Cond.code y_Tree_childAfter b_Tree_childAfter 6 (some .int) ∈ Wl := (mw (List.mem_of_getElem? (i := 436) (by decide +kernel)) rfl)
theorem cw_Tree_53 : ∀ w ∈ (([Cond.methodLink R_Tree 53 y_Tree_rankOf, Cond.instanceMethod y_Tree_rankOf, Cond.selects R_Tree y_Tree_rankOf y_Tree_rankOf, Cond.initialized R_Tree] : List Cond) ++ [Cond.code y_Tree_rankOf b_Tree_rankOf 2 (some .int)]), w ∈ Wl := List.forall_mem_cons.mpr ⟨(mw (List.mem_of_getElem? (i := 437) (by decide +kernel)) rfl), List.forall_mem_cons.mpr ⟨(mw (List.mem_of_getElem? (i := 439) (by decide +kernel)) rfl), List.forall_mem_cons.mpr ⟨(mw (List.mem_of_getElem? (i := 9) (by decide +kernel)) rfl), List.forall_mem_cons.mpr ⟨(mw (List.mem_of_getElem? (i := 36) (by decide +kernel)) rfl), List.forall_mem_cons.mpr ⟨(mw (List.mem_of_getElem? (i := 440) (by decide +kernel)) rfl), fun _ h => absurd h List.not_mem_nil⟩⟩⟩⟩⟩
theorem kc_Tree_rankOf : Cond.code y_Tree_rankOf b_Tree_rankOf 2 (some .int) ∈ Wl := (mw (List.mem_of_getElem? (i := 440) (by decide +kernel)) rfl)
theorem cw_Runner_124 : ∀ w ∈ (([Cond.methodLink R_Runner 124 y_Runner_doNode, Cond.instanceMethod y_Runner_doNode, Cond.selects R_Runner y_Runner_doNode y_Runner_doNode, Cond.initialized R_Runner] : List Cond) ++ [Cond.code y_Runner_doNode b_Runner_doNode 3 none]), w ∈ Wl := List.forall_mem_cons.mpr ⟨(mw (List.mem_of_getElem? (i := 441) (by decide +kernel)) rfl), List.forall_mem_cons.mpr ⟨(mw (List.mem_of_getElem? (i := 350) (by decide +kernel)) rfl), List.forall_mem_cons.mpr ⟨(mw (List.mem_of_getElem? (i := 351) (by decide +kernel)) rfl), List.forall_mem_cons.mpr ⟨(mw (List.mem_of_getElem? (i := 40) (by decide +kernel)) rfl), List.forall_mem_cons.mpr ⟨(mw (List.mem_of_getElem? (i := 352) (by decide +kernel)) rfl), fun _ h => absurd h List.not_mem_nil⟩⟩⟩⟩⟩
theorem cw_Runner_116 : ∀ w ∈ (([Cond.methodLink R_Runner 116 y_Journal_writeContainerFinished, Cond.instanceMethod y_Journal_writeContainerFinished, Cond.selects R_Journal y_Journal_writeContainerFinished y_Journal_writeContainerFinished, Cond.initialized R_Journal] : List Cond) ++ [Cond.code y_Journal_writeContainerFinished b_Journal_writeContainerFinished 5 none]), w ∈ Wl := List.forall_mem_cons.mpr ⟨(mw (List.mem_of_getElem? (i := 442) (by decide +kernel)) rfl), List.forall_mem_cons.mpr ⟨(mw (List.mem_of_getElem? (i := 443) (by decide +kernel)) rfl), List.forall_mem_cons.mpr ⟨(mw (List.mem_of_getElem? (i := 444) (by decide +kernel)) rfl), List.forall_mem_cons.mpr ⟨(mw (List.mem_of_getElem? (i := 39) (by decide +kernel)) rfl), List.forall_mem_cons.mpr ⟨(mw (List.mem_of_getElem? (i := 445) (by decide +kernel)) rfl), fun _ h => absurd h List.not_mem_nil⟩⟩⟩⟩⟩
theorem kc_Journal_writeContainerFinished : Cond.code y_Journal_writeContainerFinished b_Journal_writeContainerFinished 5 none ∈ Wl := (mw (List.mem_of_getElem? (i := 445) (by decide +kernel)) rfl)
theorem cw_Journal_39 : ∀ w ∈ (([Cond.methodLink R_Journal 39 y_Troubles_isEmpty, Cond.instanceMethod y_Troubles_isEmpty, Cond.selects R_Troubles y_Troubles_isEmpty y_Troubles_isEmpty, Cond.initialized R_Troubles] : List Cond) ++ [Cond.code y_Troubles_isEmpty b_Troubles_isEmpty 1 (some .boolean)]), w ∈ Wl := List.forall_mem_cons.mpr ⟨(mw (List.mem_of_getElem? (i := 446) (by decide +kernel)) rfl), List.forall_mem_cons.mpr ⟨(mw (List.mem_of_getElem? (i := 426) (by decide +kernel)) rfl), List.forall_mem_cons.mpr ⟨(mw (List.mem_of_getElem? (i := 427) (by decide +kernel)) rfl), List.forall_mem_cons.mpr ⟨(mw (List.mem_of_getElem? (i := 41) (by decide +kernel)) rfl), List.forall_mem_cons.mpr ⟨(mw (List.mem_of_getElem? (i := 428) (by decide +kernel)) rfl), fun _ h => absurd h List.not_mem_nil⟩⟩⟩⟩⟩
theorem cw_Journal_45 : ∀ w ∈ (([Cond.methodLink R_Journal 45 y_Journal_writeOutcome, Cond.instanceMethod y_Journal_writeOutcome, Cond.selects R_Journal y_Journal_writeOutcome y_Journal_writeOutcome, Cond.initialized R_Journal] : List Cond) ++ [Cond.code y_Journal_writeOutcome b_Journal_writeOutcome 6 none]), w ∈ Wl := List.forall_mem_cons.mpr ⟨(mw (List.mem_of_getElem? (i := 447) (by decide +kernel)) rfl), List.forall_mem_cons.mpr ⟨(mw (List.mem_of_getElem? (i := 449) (by decide +kernel)) rfl), List.forall_mem_cons.mpr ⟨(mw (List.mem_of_getElem? (i := 10) (by decide +kernel)) rfl), List.forall_mem_cons.mpr ⟨(mw (List.mem_of_getElem? (i := 39) (by decide +kernel)) rfl), List.forall_mem_cons.mpr ⟨(mw (List.mem_of_getElem? (i := 450) (by decide +kernel)) rfl), fun _ h => absurd h List.not_mem_nil⟩⟩⟩⟩⟩
theorem kc_Journal_writeOutcome : Cond.code y_Journal_writeOutcome b_Journal_writeOutcome 6 none ∈ Wl := (mw (List.mem_of_getElem? (i := 450) (by decide +kernel)) rfl)
theorem cw_Journal_49 : ∀ w ∈ (([Cond.methodLink R_Journal 49 y_Troubles_status, Cond.instanceMethod y_Troubles_status, Cond.selects R_Troubles y_Troubles_status y_Troubles_status, Cond.initialized R_Troubles] : List Cond) ++ [Cond.code y_Troubles_status b_Troubles_status 1 (some .int)]), w ∈ Wl := List.forall_mem_cons.mpr ⟨(mw (List.mem_of_getElem? (i := 451) (by decide +kernel)) rfl), List.forall_mem_cons.mpr ⟨(mw (List.mem_of_getElem? (i := 452) (by decide +kernel)) rfl), List.forall_mem_cons.mpr ⟨(mw (List.mem_of_getElem? (i := 453) (by decide +kernel)) rfl), List.forall_mem_cons.mpr ⟨(mw (List.mem_of_getElem? (i := 41) (by decide +kernel)) rfl), List.forall_mem_cons.mpr ⟨(mw (List.mem_of_getElem? (i := 454) (by decide +kernel)) rfl), fun _ h => absurd h List.not_mem_nil⟩⟩⟩⟩⟩
theorem kc_Troubles_status : Cond.code y_Troubles_status b_Troubles_status 1 (some .int) ∈ Wl := (mw (List.mem_of_getElem? (i := 454) (by decide +kernel)) rfl)
theorem mn_Journal_53 : Cond.methodLinkNest R_Journal 53 y_Engine_isWithin "LifecycleEngine" ∈ lw_tbl := (List.mem_of_getElem? (i := 455) (by decide +kernel))
theorem cw_Journal_57 : ∀ w ∈ (([Cond.methodLink R_Journal 57 y_Troubles_firstCode, Cond.instanceMethod y_Troubles_firstCode, Cond.selects R_Troubles y_Troubles_firstCode y_Troubles_firstCode, Cond.initialized R_Troubles] : List Cond) ++ [Cond.code y_Troubles_firstCode b_Troubles_firstCode 1 (some .int)]), w ∈ Wl := List.forall_mem_cons.mpr ⟨(mw (List.mem_of_getElem? (i := 456) (by decide +kernel)) rfl), List.forall_mem_cons.mpr ⟨(mw (List.mem_of_getElem? (i := 457) (by decide +kernel)) rfl), List.forall_mem_cons.mpr ⟨(mw (List.mem_of_getElem? (i := 458) (by decide +kernel)) rfl), List.forall_mem_cons.mpr ⟨(mw (List.mem_of_getElem? (i := 41) (by decide +kernel)) rfl), List.forall_mem_cons.mpr ⟨(mw (List.mem_of_getElem? (i := 459) (by decide +kernel)) rfl), fun _ h => absurd h List.not_mem_nil⟩⟩⟩⟩⟩
theorem kc_Troubles_firstCode : Cond.code y_Troubles_firstCode b_Troubles_firstCode 1 (some .int) ∈ Wl := (mw (List.mem_of_getElem? (i := 459) (by decide +kernel)) rfl)
theorem cw_Journal_60 : ∀ w ∈ (([Cond.methodLink R_Journal 60 y_Troubles_sizeBehindFirst, Cond.instanceMethod y_Troubles_sizeBehindFirst, Cond.selects R_Troubles y_Troubles_sizeBehindFirst y_Troubles_sizeBehindFirst, Cond.initialized R_Troubles] : List Cond) ++ [Cond.code y_Troubles_sizeBehindFirst b_Troubles_sizeBehindFirst 1 (some .int)]), w ∈ Wl := List.forall_mem_cons.mpr ⟨(mw (List.mem_of_getElem? (i := 460) (by decide +kernel)) rfl), List.forall_mem_cons.mpr ⟨(mw (List.mem_of_getElem? (i := 461) (by decide +kernel)) rfl), List.forall_mem_cons.mpr ⟨(mw (List.mem_of_getElem? (i := 462) (by decide +kernel)) rfl), List.forall_mem_cons.mpr ⟨(mw (List.mem_of_getElem? (i := 41) (by decide +kernel)) rfl), List.forall_mem_cons.mpr ⟨(mw (List.mem_of_getElem? (i := 463) (by decide +kernel)) rfl), fun _ h => absurd h List.not_mem_nil⟩⟩⟩⟩⟩
theorem kc_Troubles_sizeBehindFirst : Cond.code y_Troubles_sizeBehindFirst b_Troubles_sizeBehindFirst 1 (some .int) ∈ Wl := (mw (List.mem_of_getElem? (i := 463) (by decide +kernel)) rfl)
theorem cw_Journal_63 : ∀ w ∈ (([Cond.methodLink R_Journal 63 y_Troubles_codeOrNone, Cond.instanceMethod y_Troubles_codeOrNone, Cond.selects R_Troubles y_Troubles_codeOrNone y_Troubles_codeOrNone, Cond.initialized R_Troubles] : List Cond) ++ [Cond.code y_Troubles_codeOrNone b_Troubles_codeOrNone 2 (some .int)]), w ∈ Wl := List.forall_mem_cons.mpr ⟨(mw (List.mem_of_getElem? (i := 464) (by decide +kernel)) rfl), List.forall_mem_cons.mpr ⟨(mw (List.mem_of_getElem? (i := 465) (by decide +kernel)) rfl), List.forall_mem_cons.mpr ⟨(mw (List.mem_of_getElem? (i := 466) (by decide +kernel)) rfl), List.forall_mem_cons.mpr ⟨(mw (List.mem_of_getElem? (i := 41) (by decide +kernel)) rfl), List.forall_mem_cons.mpr ⟨(mw (List.mem_of_getElem? (i := 467) (by decide +kernel)) rfl), fun _ h => absurd h List.not_mem_nil⟩⟩⟩⟩⟩
theorem kc_Troubles_codeOrNone : Cond.code y_Troubles_codeOrNone b_Troubles_codeOrNone 2 (some .int) ∈ Wl := (mw (List.mem_of_getElem? (i := 467) (by decide +kernel)) rfl)
theorem cw_Runner_86 : ∀ w ∈ (([Cond.methodLink R_Runner 86 y_Runner_doTest, Cond.instanceMethod y_Runner_doTest, Cond.selects R_Runner y_Runner_doTest y_Runner_doTest, Cond.initialized R_Runner] : List Cond) ++ [Cond.code y_Runner_doTest b_Runner_doTest 4 none]), w ∈ Wl := List.forall_mem_cons.mpr ⟨(mw (List.mem_of_getElem? (i := 468) (by decide +kernel)) rfl), List.forall_mem_cons.mpr ⟨(mw (List.mem_of_getElem? (i := 470) (by decide +kernel)) rfl), List.forall_mem_cons.mpr ⟨(mw (List.mem_of_getElem? (i := 11) (by decide +kernel)) rfl), List.forall_mem_cons.mpr ⟨(mw (List.mem_of_getElem? (i := 40) (by decide +kernel)) rfl), List.forall_mem_cons.mpr ⟨(mw (List.mem_of_getElem? (i := 471) (by decide +kernel)) rfl), fun _ h => absurd h List.not_mem_nil⟩⟩⟩⟩⟩
theorem kc_Runner_doTest : Cond.code y_Runner_doTest b_Runner_doTest 4 none ∈ Wl := (mw (List.mem_of_getElem? (i := 471) (by decide +kernel)) rfl)
theorem cw_Runner_127 : ∀ w ∈ (([Cond.methodLink R_Runner 127 y_Tree_roundsOf, Cond.instanceMethod y_Tree_roundsOf, Cond.selects R_Tree y_Tree_roundsOf y_Tree_roundsOf, Cond.initialized R_Tree] : List Cond) ++ [Cond.code y_Tree_roundsOf b_Tree_roundsOf 2 (some .int)]), w ∈ Wl := List.forall_mem_cons.mpr ⟨(mw (List.mem_of_getElem? (i := 472) (by decide +kernel)) rfl), List.forall_mem_cons.mpr ⟨(mw (List.mem_of_getElem? (i := 473) (by decide +kernel)) rfl), List.forall_mem_cons.mpr ⟨(mw (List.mem_of_getElem? (i := 474) (by decide +kernel)) rfl), List.forall_mem_cons.mpr ⟨(mw (List.mem_of_getElem? (i := 36) (by decide +kernel)) rfl), List.forall_mem_cons.mpr ⟨(mw (List.mem_of_getElem? (i := 475) (by decide +kernel)) rfl), fun _ h => absurd h List.not_mem_nil⟩⟩⟩⟩⟩
theorem kc_Tree_roundsOf : Cond.code y_Tree_roundsOf b_Tree_roundsOf 2 (some .int) ∈ Wl := (mw (List.mem_of_getElem? (i := 475) (by decide +kernel)) rfl)
theorem cw_Runner_130 : ∀ w ∈ (([Cond.methodLink R_Runner 130 y_Runner_doRound, Cond.instanceMethod y_Runner_doRound, Cond.selects R_Runner y_Runner_doRound y_Runner_doRound, Cond.initialized R_Runner] : List Cond) ++ [Cond.code y_Runner_doRound b_Runner_doRound 7 none]), w ∈ Wl := List.forall_mem_cons.mpr ⟨(mw (List.mem_of_getElem? (i := 476) (by decide +kernel)) rfl), List.forall_mem_cons.mpr ⟨(mw (List.mem_of_getElem? (i := 478) (by decide +kernel)) rfl), List.forall_mem_cons.mpr ⟨(mw (List.mem_of_getElem? (i := 12) (by decide +kernel)) rfl), List.forall_mem_cons.mpr ⟨(mw (List.mem_of_getElem? (i := 40) (by decide +kernel)) rfl), List.forall_mem_cons.mpr ⟨(mw (List.mem_of_getElem? (i := 479) (by decide +kernel)) rfl), fun _ h => absurd h List.not_mem_nil⟩⟩⟩⟩⟩
theorem kc_Runner_doRound : Cond.code y_Runner_doRound b_Runner_doRound 7 none ∈ Wl := (mw (List.mem_of_getElem? (i := 479) (by decide +kernel)) rfl)
theorem cw_Runner_133 : ∀ w ∈ (([Cond.methodLink R_Runner 133 y_Tree_parentOf, Cond.instanceMethod y_Tree_parentOf, Cond.selects R_Tree y_Tree_parentOf y_Tree_parentOf, Cond.initialized R_Tree] : List Cond) ++ [Cond.code y_Tree_parentOf b_Tree_parentOf 2 (some .int)]), w ∈ Wl := List.forall_mem_cons.mpr ⟨(mw (List.mem_of_getElem? (i := 480) (by decide +kernel)) rfl), List.forall_mem_cons.mpr ⟨(mw (List.mem_of_getElem? (i := 330) (by decide +kernel)) rfl), List.forall_mem_cons.mpr ⟨(mw (List.mem_of_getElem? (i := 331) (by decide +kernel)) rfl), List.forall_mem_cons.mpr ⟨(mw (List.mem_of_getElem? (i := 36) (by decide +kernel)) rfl), List.forall_mem_cons.mpr ⟨(mw (List.mem_of_getElem? (i := 332) (by decide +kernel)) rfl), fun _ h => absurd h List.not_mem_nil⟩⟩⟩⟩⟩
theorem cw_Runner_136 : ∀ w ∈ (([Cond.methodLink R_Runner 136 y_Tree_depthOf, Cond.instanceMethod y_Tree_depthOf, Cond.selects R_Tree y_Tree_depthOf y_Tree_depthOf, Cond.initialized R_Tree] : List Cond) ++ [Cond.code y_Tree_depthOf b_Tree_depthOf 2 (some .int)]), w ∈ Wl := List.forall_mem_cons.mpr ⟨(mw (List.mem_of_getElem? (i := 481) (by decide +kernel)) rfl), List.forall_mem_cons.mpr ⟨(mw (List.mem_of_getElem? (i := 243) (by decide +kernel)) rfl), List.forall_mem_cons.mpr ⟨(mw (List.mem_of_getElem? (i := 244) (by decide +kernel)) rfl), List.forall_mem_cons.mpr ⟨(mw (List.mem_of_getElem? (i := 36) (by decide +kernel)) rfl), List.forall_mem_cons.mpr ⟨(mw (List.mem_of_getElem? (i := 245) (by decide +kernel)) rfl), fun _ h => absurd h List.not_mem_nil⟩⟩⟩⟩⟩
theorem cw_Runner_139 : ∀ w ∈ (([Cond.methodLink R_Runner 139 y_Tree_writePath, Cond.instanceMethod y_Tree_writePath, Cond.selects R_Tree y_Tree_writePath y_Tree_writePath, Cond.initialized R_Tree] : List Cond) ++ [Cond.code y_Tree_writePath b_Tree_writePath 5 none]), w ∈ Wl := List.forall_mem_cons.mpr ⟨(mw (List.mem_of_getElem? (i := 482) (by decide +kernel)) rfl), List.forall_mem_cons.mpr ⟨(mw (List.mem_of_getElem? (i := 483) (by decide +kernel)) rfl), List.forall_mem_cons.mpr ⟨(mw (List.mem_of_getElem? (i := 484) (by decide +kernel)) rfl), List.forall_mem_cons.mpr ⟨(mw (List.mem_of_getElem? (i := 36) (by decide +kernel)) rfl), List.forall_mem_cons.mpr ⟨(mw (List.mem_of_getElem? (i := 485) (by decide +kernel)) rfl), fun _ h => absurd h List.not_mem_nil⟩⟩⟩⟩⟩
theorem kc_Tree_writePath : Cond.code y_Tree_writePath b_Tree_writePath 5 none ∈ Wl := (mw (List.mem_of_getElem? (i := 485) (by decide +kernel)) rfl)
theorem cw_Runner_143 : ∀ w ∈ (([Cond.methodLink R_Runner 143 y_Runner_makeRoundInstances, Cond.instanceMethod y_Runner_makeRoundInstances, Cond.selects R_Runner y_Runner_makeRoundInstances y_Runner_makeRoundInstances, Cond.initialized R_Runner] : List Cond) ++ [Cond.code y_Runner_makeRoundInstances b_Runner_makeRoundInstances 3 none]), w ∈ Wl := List.forall_mem_cons.mpr ⟨(mw (List.mem_of_getElem? (i := 486) (by decide +kernel)) rfl), List.forall_mem_cons.mpr ⟨(mw (List.mem_of_getElem? (i := 488) (by decide +kernel)) rfl), List.forall_mem_cons.mpr ⟨(mw (List.mem_of_getElem? (i := 13) (by decide +kernel)) rfl), List.forall_mem_cons.mpr ⟨(mw (List.mem_of_getElem? (i := 40) (by decide +kernel)) rfl), List.forall_mem_cons.mpr ⟨(mw (List.mem_of_getElem? (i := 489) (by decide +kernel)) rfl), fun _ h => absurd h List.not_mem_nil⟩⟩⟩⟩⟩
theorem kc_Runner_makeRoundInstances : Cond.code y_Runner_makeRoundInstances b_Runner_makeRoundInstances 3 none ∈ Wl := (mw (List.mem_of_getElem? (i := 489) (by decide +kernel)) rfl)
theorem cw_Runner_146 : ∀ w ∈ (([Cond.methodLink R_Runner 146 y_Runner_openEach, Cond.instanceMethod y_Runner_openEach, Cond.selects R_Runner y_Runner_openEach y_Runner_openEach, Cond.initialized R_Runner] : List Cond) ++ [Cond.code y_Runner_openEach b_Runner_openEach 4 (some .int)]), w ∈ Wl := List.forall_mem_cons.mpr ⟨(mw (List.mem_of_getElem? (i := 490) (by decide +kernel)) rfl), List.forall_mem_cons.mpr ⟨(mw (List.mem_of_getElem? (i := 492) (by decide +kernel)) rfl), List.forall_mem_cons.mpr ⟨(mw (List.mem_of_getElem? (i := 14) (by decide +kernel)) rfl), List.forall_mem_cons.mpr ⟨(mw (List.mem_of_getElem? (i := 40) (by decide +kernel)) rfl), List.forall_mem_cons.mpr ⟨(mw (List.mem_of_getElem? (i := 493) (by decide +kernel)) rfl), fun _ h => absurd h List.not_mem_nil⟩⟩⟩⟩⟩
theorem kc_Runner_openEach : Cond.code y_Runner_openEach b_Runner_openEach 4 (some .int) ∈ Wl := (mw (List.mem_of_getElem? (i := 493) (by decide +kernel)) rfl)
theorem cw_Runner_150 : ∀ w ∈ (([Cond.methodLink R_Runner 150 y_Runner_closeEach, Cond.instanceMethod y_Runner_closeEach, Cond.selects R_Runner y_Runner_closeEach y_Runner_closeEach, Cond.initialized R_Runner] : List Cond) ++ [Cond.code y_Runner_closeEach b_Runner_closeEach 4 none]), w ∈ Wl := List.forall_mem_cons.mpr ⟨(mw (List.mem_of_getElem? (i := 494) (by decide +kernel)) rfl), List.forall_mem_cons.mpr ⟨(mw (List.mem_of_getElem? (i := 496) (by decide +kernel)) rfl), List.forall_mem_cons.mpr ⟨(mw (List.mem_of_getElem? (i := 15) (by decide +kernel)) rfl), List.forall_mem_cons.mpr ⟨(mw (List.mem_of_getElem? (i := 40) (by decide +kernel)) rfl), List.forall_mem_cons.mpr ⟨(mw (List.mem_of_getElem? (i := 497) (by decide +kernel)) rfl), fun _ h => absurd h List.not_mem_nil⟩⟩⟩⟩⟩
theorem kc_Runner_closeEach : Cond.code y_Runner_closeEach b_Runner_closeEach 4 none ∈ Wl := (mw (List.mem_of_getElem? (i := 497) (by decide +kernel)) rfl)
theorem cw_Runner_154 : ∀ w ∈ (([Cond.methodLink R_Runner 154 y_Journal_writeRoundFinished, Cond.instanceMethod y_Journal_writeRoundFinished, Cond.selects R_Journal y_Journal_writeRoundFinished y_Journal_writeRoundFinished, Cond.initialized R_Journal] : List Cond) ++ [Cond.code y_Journal_writeRoundFinished b_Journal_writeRoundFinished 6 none]), w ∈ Wl := List.forall_mem_cons.mpr ⟨(mw (List.mem_of_getElem? (i := 498) (by decide +kernel)) rfl), List.forall_mem_cons.mpr ⟨(mw (List.mem_of_getElem? (i := 499) (by decide +kernel)) rfl), List.forall_mem_cons.mpr ⟨(mw (List.mem_of_getElem? (i := 500) (by decide +kernel)) rfl), List.forall_mem_cons.mpr ⟨(mw (List.mem_of_getElem? (i := 39) (by decide +kernel)) rfl), List.forall_mem_cons.mpr ⟨(mw (List.mem_of_getElem? (i := 501) (by decide +kernel)) rfl), fun _ h => absurd h List.not_mem_nil⟩⟩⟩⟩⟩
theorem kc_Journal_writeRoundFinished : Cond.code y_Journal_writeRoundFinished b_Journal_writeRoundFinished 6 none ∈ Wl := (mw (List.mem_of_getElem? (i := 501) (by decide +kernel)) rfl)
theorem cw_Engine_114 : ∀ w ∈ (([Cond.methodLink R_Engine 114 y_Journal_hasFailure, Cond.instanceMethod y_Journal_hasFailure, Cond.selects R_Journal y_Journal_hasFailure y_Journal_hasFailure, Cond.initialized R_Journal] : List Cond) ++ [Cond.code y_Journal_hasFailure b_Journal_hasFailure 1 (some .boolean)]), w ∈ Wl := List.forall_mem_cons.mpr ⟨(mw (List.mem_of_getElem? (i := 502) (by decide +kernel)) rfl), List.forall_mem_cons.mpr ⟨(mw (List.mem_of_getElem? (i := 503) (by decide +kernel)) rfl), List.forall_mem_cons.mpr ⟨(mw (List.mem_of_getElem? (i := 504) (by decide +kernel)) rfl), List.forall_mem_cons.mpr ⟨(mw (List.mem_of_getElem? (i := 39) (by decide +kernel)) rfl), List.forall_mem_cons.mpr ⟨(mw (List.mem_of_getElem? (i := 505) (by decide +kernel)) rfl), fun _ h => absurd h List.not_mem_nil⟩⟩⟩⟩⟩
theorem kc_Journal_hasFailure : Cond.code y_Journal_hasFailure b_Journal_hasFailure 1 (some .boolean) ∈ Wl := (mw (List.mem_of_getElem? (i := 505) (by decide +kernel)) rfl)
theorem cw_Law_42 : ∀ w ∈ (([Cond.methodLink R_law 42 y_Engine_event, Cond.instanceMethod y_Engine_event, Cond.selects R_Engine y_Engine_event y_Engine_event, Cond.initialized R_Engine] : List Cond) ++ [Cond.code y_Engine_event b_Engine_event 3 (some .int)]), w ∈ Wl := List.forall_mem_cons.mpr ⟨(mw (List.mem_of_getElem? (i := 506) (by decide +kernel)) rfl), List.forall_mem_cons.mpr ⟨(mw (List.mem_of_getElem? (i := 507) (by decide +kernel)) rfl), List.forall_mem_cons.mpr ⟨(mw (List.mem_of_getElem? (i := 508) (by decide +kernel)) rfl), List.forall_mem_cons.mpr ⟨(mw (List.mem_of_getElem? (i := 35) (by decide +kernel)) rfl), List.forall_mem_cons.mpr ⟨(mw (List.mem_of_getElem? (i := 509) (by decide +kernel)) rfl), fun _ h => absurd h List.not_mem_nil⟩⟩⟩⟩⟩
theorem kc_Engine_event : Cond.code y_Engine_event b_Engine_event 3 (some .int) ∈ Wl := (mw (List.mem_of_getElem? (i := 509) (by decide +kernel)) rfl)
theorem cw_Engine_117 : ∀ w ∈ (([Cond.methodLink R_Engine 117 y_Journal_fieldOf, Cond.instanceMethod y_Journal_fieldOf, Cond.selects R_Journal y_Journal_fieldOf y_Journal_fieldOf, Cond.initialized R_Journal] : List Cond) ++ [Cond.code y_Journal_fieldOf b_Journal_fieldOf 3 (some .int)]), w ∈ Wl := List.forall_mem_cons.mpr ⟨(mw (List.mem_of_getElem? (i := 510) (by decide +kernel)) rfl), List.forall_mem_cons.mpr ⟨(mw (List.mem_of_getElem? (i := 511) (by decide +kernel)) rfl), List.forall_mem_cons.mpr ⟨(mw (List.mem_of_getElem? (i := 512) (by decide +kernel)) rfl), List.forall_mem_cons.mpr ⟨(mw (List.mem_of_getElem? (i := 39) (by decide +kernel)) rfl), List.forall_mem_cons.mpr ⟨(mw (List.mem_of_getElem? (i := 513) (by decide +kernel)) rfl), fun _ h => absurd h List.not_mem_nil⟩⟩⟩⟩⟩
theorem kc_Journal_fieldOf : Cond.code y_Journal_fieldOf b_Journal_fieldOf 3 (some .int) ∈ Wl := (mw (List.mem_of_getElem? (i := 513) (by decide +kernel)) rfl)
theorem cw_Journal_73 : ∀ w ∈ (([Cond.methodLink R_Journal 73 y_Journal_isKept, Cond.instanceMethod y_Journal_isKept, Cond.selects R_Journal y_Journal_isKept y_Journal_isKept, Cond.initialized R_Journal] : List Cond) ++ [Cond.code y_Journal_isKept b_Journal_isKept 2 (some .boolean)]), w ∈ Wl := List.forall_mem_cons.mpr ⟨(mw (List.mem_of_getElem? (i := 514) (by decide +kernel)) rfl), List.forall_mem_cons.mpr ⟨(mw (List.mem_of_getElem? (i := 516) (by decide +kernel)) rfl), List.forall_mem_cons.mpr ⟨(mw (List.mem_of_getElem? (i := 16) (by decide +kernel)) rfl), List.forall_mem_cons.mpr ⟨(mw (List.mem_of_getElem? (i := 39) (by decide +kernel)) rfl), List.forall_mem_cons.mpr ⟨(mw (List.mem_of_getElem? (i := 517) (by decide +kernel)) rfl), fun _ h => absurd h List.not_mem_nil⟩⟩⟩⟩⟩
theorem kc_Journal_isKept : Cond.code y_Journal_isKept b_Journal_isKept 2 (some .boolean) ∈ Wl := (mw (List.mem_of_getElem? (i := 517) (by decide +kernel)) rfl)
theorem cw_Journal_67 : ∀ w ∈ (([Cond.methodLink R_Journal 67 y_Math_min, Cond.static y_Math_min, Cond.initialized y_Math_min.cls] : List Cond) ++ [Cond.code y_Math_min b_Math_min 2 (some .int)]), w ∈ Wl := List.forall_mem_cons.mpr ⟨(mw (List.mem_of_getElem? (i := 518) (by decide +kernel)) rfl), List.forall_mem_cons.mpr ⟨(mw (List.mem_of_getElem? (i := 519) (by decide +kernel)) rfl), List.forall_mem_cons.mpr ⟨(mw (List.mem_of_getElem? (i := 43) (by decide +kernel)) rfl), List.forall_mem_cons.mpr ⟨(mw (List.mem_of_getElem? (i := 520) (by decide +kernel)) rfl), fun _ h => absurd h List.not_mem_nil⟩⟩⟩⟩
theorem ks_Math_min : Cond.static y_Math_min ∈ Wl := (mw (List.mem_of_getElem? (i := 519) (by decide +kernel)) rfl)
theorem kc_Math_min : Cond.code y_Math_min b_Math_min 2 (some .int) ∈ Wl := (mw (List.mem_of_getElem? (i := 520) (by decide +kernel)) rfl)
theorem cw_Law_46 : ∀ w ∈ (([Cond.methodLink R_law 46 y_Engine_trouble, Cond.instanceMethod y_Engine_trouble, Cond.selects R_Engine y_Engine_trouble y_Engine_trouble, Cond.initialized R_Engine] : List Cond) ++ [Cond.code y_Engine_trouble b_Engine_trouble 3 (some .int)]), w ∈ Wl := List.forall_mem_cons.mpr ⟨(mw (List.mem_of_getElem? (i := 521) (by decide +kernel)) rfl), List.forall_mem_cons.mpr ⟨(mw (List.mem_of_getElem? (i := 522) (by decide +kernel)) rfl), List.forall_mem_cons.mpr ⟨(mw (List.mem_of_getElem? (i := 523) (by decide +kernel)) rfl), List.forall_mem_cons.mpr ⟨(mw (List.mem_of_getElem? (i := 35) (by decide +kernel)) rfl), List.forall_mem_cons.mpr ⟨(mw (List.mem_of_getElem? (i := 524) (by decide +kernel)) rfl), fun _ h => absurd h List.not_mem_nil⟩⟩⟩⟩⟩
theorem kc_Engine_trouble : Cond.code y_Engine_trouble b_Engine_trouble 3 (some .int) ∈ Wl := (mw (List.mem_of_getElem? (i := 524) (by decide +kernel)) rfl)
theorem cw_Engine_120 : ∀ w ∈ (([Cond.methodLink R_Engine 120 y_Journal_codeOf, Cond.instanceMethod y_Journal_codeOf, Cond.selects R_Journal y_Journal_codeOf y_Journal_codeOf, Cond.initialized R_Journal] : List Cond) ++ [Cond.code y_Journal_codeOf b_Journal_codeOf 3 (some .int)]), w ∈ Wl := List.forall_mem_cons.mpr ⟨(mw (List.mem_of_getElem? (i := 525) (by decide +kernel)) rfl), List.forall_mem_cons.mpr ⟨(mw (List.mem_of_getElem? (i := 526) (by decide +kernel)) rfl), List.forall_mem_cons.mpr ⟨(mw (List.mem_of_getElem? (i := 527) (by decide +kernel)) rfl), List.forall_mem_cons.mpr ⟨(mw (List.mem_of_getElem? (i := 39) (by decide +kernel)) rfl), List.forall_mem_cons.mpr ⟨(mw (List.mem_of_getElem? (i := 528) (by decide +kernel)) rfl), fun _ h => absurd h List.not_mem_nil⟩⟩⟩⟩⟩
theorem kc_Journal_codeOf : Cond.code y_Journal_codeOf b_Journal_codeOf 3 (some .int) ∈ Wl := (mw (List.mem_of_getElem? (i := 528) (by decide +kernel)) rfl)
theorem cw_Law_50 : ∀ w ∈ (([Cond.methodLink R_law 50 y_Engine_count, Cond.instanceMethod y_Engine_count, Cond.selects R_Engine y_Engine_count y_Engine_count, Cond.initialized R_Engine] : List Cond) ++ [Cond.code y_Engine_count b_Engine_count 2 (some .int)]), w ∈ Wl := List.forall_mem_cons.mpr ⟨(mw (List.mem_of_getElem? (i := 529) (by decide +kernel)) rfl), List.forall_mem_cons.mpr ⟨(mw (List.mem_of_getElem? (i := 530) (by decide +kernel)) rfl), List.forall_mem_cons.mpr ⟨(mw (List.mem_of_getElem? (i := 531) (by decide +kernel)) rfl), List.forall_mem_cons.mpr ⟨(mw (List.mem_of_getElem? (i := 35) (by decide +kernel)) rfl), List.forall_mem_cons.mpr ⟨(mw (List.mem_of_getElem? (i := 532) (by decide +kernel)) rfl), fun _ h => absurd h List.not_mem_nil⟩⟩⟩⟩⟩
theorem kc_Engine_count : Cond.code y_Engine_count b_Engine_count 2 (some .int) ∈ Wl := (mw (List.mem_of_getElem? (i := 532) (by decide +kernel)) rfl)
theorem cw_Engine_123 : ∀ w ∈ (([Cond.methodLink R_Engine 123 y_Tree_size, Cond.instanceMethod y_Tree_size, Cond.selects R_Tree y_Tree_size y_Tree_size, Cond.initialized R_Tree] : List Cond) ++ [Cond.code y_Tree_size b_Tree_size 1 (some .int)]), w ∈ Wl := List.forall_mem_cons.mpr ⟨(mw (List.mem_of_getElem? (i := 533) (by decide +kernel)) rfl), List.forall_mem_cons.mpr ⟨(mw (List.mem_of_getElem? (i := 326) (by decide +kernel)) rfl), List.forall_mem_cons.mpr ⟨(mw (List.mem_of_getElem? (i := 327) (by decide +kernel)) rfl), List.forall_mem_cons.mpr ⟨(mw (List.mem_of_getElem? (i := 36) (by decide +kernel)) rfl), List.forall_mem_cons.mpr ⟨(mw (List.mem_of_getElem? (i := 328) (by decide +kernel)) rfl), fun _ h => absurd h List.not_mem_nil⟩⟩⟩⟩⟩
theorem cw_Engine_127 : ∀ w ∈ (([Cond.methodLink R_Engine 127 y_Journal_events, Cond.instanceMethod y_Journal_events, Cond.selects R_Journal y_Journal_events y_Journal_events, Cond.initialized R_Journal] : List Cond) ++ [Cond.code y_Journal_events b_Journal_events 1 (some .int)]), w ∈ Wl := List.forall_mem_cons.mpr ⟨(mw (List.mem_of_getElem? (i := 534) (by decide +kernel)) rfl), List.forall_mem_cons.mpr ⟨(mw (List.mem_of_getElem? (i := 535) (by decide +kernel)) rfl), List.forall_mem_cons.mpr ⟨(mw (List.mem_of_getElem? (i := 536) (by decide +kernel)) rfl), List.forall_mem_cons.mpr ⟨(mw (List.mem_of_getElem? (i := 39) (by decide +kernel)) rfl), List.forall_mem_cons.mpr ⟨(mw (List.mem_of_getElem? (i := 537) (by decide +kernel)) rfl), fun _ h => absurd h List.not_mem_nil⟩⟩⟩⟩⟩
theorem kc_Journal_events : Cond.code y_Journal_events b_Journal_events 1 (some .int) ∈ Wl := (mw (List.mem_of_getElem? (i := 537) (by decide +kernel)) rfl)
theorem cw_Engine_130 : ∀ w ∈ (([Cond.methodLink R_Engine 130 y_Journal_roundsWith, Cond.instanceMethod y_Journal_roundsWith, Cond.selects R_Journal y_Journal_roundsWith y_Journal_roundsWith, Cond.initialized R_Journal] : List Cond) ++ [Cond.code y_Journal_roundsWith b_Journal_roundsWith 2 (some .int)]), w ∈ Wl := List.forall_mem_cons.mpr ⟨(mw (List.mem_of_getElem? (i := 538) (by decide +kernel)) rfl), List.forall_mem_cons.mpr ⟨(mw (List.mem_of_getElem? (i := 367) (by decide +kernel)) rfl), List.forall_mem_cons.mpr ⟨(mw (List.mem_of_getElem? (i := 368) (by decide +kernel)) rfl), List.forall_mem_cons.mpr ⟨(mw (List.mem_of_getElem? (i := 39) (by decide +kernel)) rfl), List.forall_mem_cons.mpr ⟨(mw (List.mem_of_getElem? (i := 369) (by decide +kernel)) rfl), fun _ h => absurd h List.not_mem_nil⟩⟩⟩⟩⟩
theorem cw_Engine_133 : ∀ w ∈ (([Cond.methodLink R_Engine 133 y_Journal_skips, Cond.instanceMethod y_Journal_skips, Cond.selects R_Journal y_Journal_skips y_Journal_skips, Cond.initialized R_Journal] : List Cond) ++ [Cond.code y_Journal_skips b_Journal_skips 1 (some .int)]), w ∈ Wl := List.forall_mem_cons.mpr ⟨(mw (List.mem_of_getElem? (i := 539) (by decide +kernel)) rfl), List.forall_mem_cons.mpr ⟨(mw (List.mem_of_getElem? (i := 540) (by decide +kernel)) rfl), List.forall_mem_cons.mpr ⟨(mw (List.mem_of_getElem? (i := 541) (by decide +kernel)) rfl), List.forall_mem_cons.mpr ⟨(mw (List.mem_of_getElem? (i := 39) (by decide +kernel)) rfl), List.forall_mem_cons.mpr ⟨(mw (List.mem_of_getElem? (i := 542) (by decide +kernel)) rfl), fun _ h => absurd h List.not_mem_nil⟩⟩⟩⟩⟩
theorem kc_Journal_skips : Cond.code y_Journal_skips b_Journal_skips 1 (some .int) ∈ Wl := (mw (List.mem_of_getElem? (i := 542) (by decide +kernel)) rfl)
theorem cw_Engine_136 : ∀ w ∈ (([Cond.methodLink R_Engine 136 y_Journal_troubledContainers, Cond.instanceMethod y_Journal_troubledContainers, Cond.selects R_Journal y_Journal_troubledContainers y_Journal_troubledContainers, Cond.initialized R_Journal] : List Cond) ++ [Cond.code y_Journal_troubledContainers b_Journal_troubledContainers 1 (some .int)]), w ∈ Wl := List.forall_mem_cons.mpr ⟨(mw (List.mem_of_getElem? (i := 543) (by decide +kernel)) rfl), List.forall_mem_cons.mpr ⟨(mw (List.mem_of_getElem? (i := 544) (by decide +kernel)) rfl), List.forall_mem_cons.mpr ⟨(mw (List.mem_of_getElem? (i := 545) (by decide +kernel)) rfl), List.forall_mem_cons.mpr ⟨(mw (List.mem_of_getElem? (i := 39) (by decide +kernel)) rfl), List.forall_mem_cons.mpr ⟨(mw (List.mem_of_getElem? (i := 546) (by decide +kernel)) rfl), fun _ h => absurd h List.not_mem_nil⟩⟩⟩⟩⟩
theorem kc_Journal_troubledContainers : Cond.code y_Journal_troubledContainers b_Journal_troubledContainers 1 (some .int) ∈ Wl := (mw (List.mem_of_getElem? (i := 546) (by decide +kernel)) rfl)
theorem cw_Engine_139 : ∀ w ∈ (([Cond.methodLink R_Engine 139 y_Runner_instancesMade, Cond.instanceMethod y_Runner_instancesMade, Cond.selects R_Runner y_Runner_instancesMade y_Runner_instancesMade, Cond.initialized R_Runner] : List Cond) ++ [Cond.code y_Runner_instancesMade b_Runner_instancesMade 1 (some .int)]), w ∈ Wl := List.forall_mem_cons.mpr ⟨(mw (List.mem_of_getElem? (i := 547) (by decide +kernel)) rfl), List.forall_mem_cons.mpr ⟨(mw (List.mem_of_getElem? (i := 548) (by decide +kernel)) rfl), List.forall_mem_cons.mpr ⟨(mw (List.mem_of_getElem? (i := 549) (by decide +kernel)) rfl), List.forall_mem_cons.mpr ⟨(mw (List.mem_of_getElem? (i := 40) (by decide +kernel)) rfl), List.forall_mem_cons.mpr ⟨(mw (List.mem_of_getElem? (i := 550) (by decide +kernel)) rfl), fun _ h => absurd h List.not_mem_nil⟩⟩⟩⟩⟩
theorem kc_Runner_instancesMade : Cond.code y_Runner_instancesMade b_Runner_instancesMade 1 (some .int) ∈ Wl := (mw (List.mem_of_getElem? (i := 550) (by decide +kernel)) rfl)
theorem cw_Engine_142 : ∀ w ∈ (([Cond.methodLink R_Engine 142 y_Runner_time, Cond.instanceMethod y_Runner_time, Cond.selects R_Runner y_Runner_time y_Runner_time, Cond.initialized R_Runner] : List Cond) ++ [Cond.code y_Runner_time b_Runner_time 1 (some .int)]), w ∈ Wl := List.forall_mem_cons.mpr ⟨(mw (List.mem_of_getElem? (i := 551) (by decide +kernel)) rfl), List.forall_mem_cons.mpr ⟨(mw (List.mem_of_getElem? (i := 552) (by decide +kernel)) rfl), List.forall_mem_cons.mpr ⟨(mw (List.mem_of_getElem? (i := 553) (by decide +kernel)) rfl), List.forall_mem_cons.mpr ⟨(mw (List.mem_of_getElem? (i := 40) (by decide +kernel)) rfl), List.forall_mem_cons.mpr ⟨(mw (List.mem_of_getElem? (i := 554) (by decide +kernel)) rfl), fun _ h => absurd h List.not_mem_nil⟩⟩⟩⟩⟩
theorem kc_Runner_time : Cond.code y_Runner_time b_Runner_time 1 (some .int) ∈ Wl := (mw (List.mem_of_getElem? (i := 554) (by decide +kernel)) rfl)
theorem cw_Engine_145 : ∀ w ∈ (([Cond.methodLink R_Engine 145 y_Runner_calls, Cond.instanceMethod y_Runner_calls, Cond.selects R_Runner y_Runner_calls y_Runner_calls, Cond.initialized R_Runner] : List Cond) ++ [Cond.code y_Runner_calls b_Runner_calls 1 (some .int)]), w ∈ Wl := List.forall_mem_cons.mpr ⟨(mw (List.mem_of_getElem? (i := 555) (by decide +kernel)) rfl), List.forall_mem_cons.mpr ⟨(mw (List.mem_of_getElem? (i := 556) (by decide +kernel)) rfl), List.forall_mem_cons.mpr ⟨(mw (List.mem_of_getElem? (i := 557) (by decide +kernel)) rfl), List.forall_mem_cons.mpr ⟨(mw (List.mem_of_getElem? (i := 40) (by decide +kernel)) rfl), List.forall_mem_cons.mpr ⟨(mw (List.mem_of_getElem? (i := 558) (by decide +kernel)) rfl), fun _ h => absurd h List.not_mem_nil⟩⟩⟩⟩⟩
theorem kc_Runner_calls : Cond.code y_Runner_calls b_Runner_calls 1 (some .int) ∈ Wl := (mw (List.mem_of_getElem? (i := 558) (by decide +kernel)) rfl)
theorem cw_Engine_148 : ∀ w ∈ (([Cond.methodLink R_Engine 148 y_Choice_chosenTests, Cond.instanceMethod y_Choice_chosenTests, Cond.selects R_Choice y_Choice_chosenTests y_Choice_chosenTests, Cond.initialized R_Choice] : List Cond) ++ [Cond.code y_Choice_chosenTests b_Choice_chosenTests 1 (some .int)]), w ∈ Wl := List.forall_mem_cons.mpr ⟨(mw (List.mem_of_getElem? (i := 559) (by decide +kernel)) rfl), List.forall_mem_cons.mpr ⟨(mw (List.mem_of_getElem? (i := 560) (by decide +kernel)) rfl), List.forall_mem_cons.mpr ⟨(mw (List.mem_of_getElem? (i := 561) (by decide +kernel)) rfl), List.forall_mem_cons.mpr ⟨(mw (List.mem_of_getElem? (i := 38) (by decide +kernel)) rfl), List.forall_mem_cons.mpr ⟨(mw (List.mem_of_getElem? (i := 562) (by decide +kernel)) rfl), fun _ h => absurd h List.not_mem_nil⟩⟩⟩⟩⟩
theorem kc_Choice_chosenTests : Cond.code y_Choice_chosenTests b_Choice_chosenTests 1 (some .int) ∈ Wl := (mw (List.mem_of_getElem? (i := 562) (by decide +kernel)) rfl)
theorem kl_Law_10 : Cond.classLink R_law 10 R_Model ∈ Wl := (mw (List.mem_of_getElem? (i := 563) (by decide +kernel)) rfl)
theorem ki_Model : Cond.instantiable R_Model 34 ∈ Wl := (mw (List.mem_of_getElem? (i := 564) (by decide +kernel)) rfl)
theorem cw_Law_12 : ∀ w ∈ (([Cond.methodLink R_law 12 y_Model_init, Cond.instanceMethod y_Model_init, Cond.initialized R_Model] : List Cond) ++ [Cond.code y_Model_init b_Model_init 1 none]), w ∈ Wl := List.forall_mem_cons.mpr ⟨(mw (List.mem_of_getElem? (i := 565) (by decide +kernel)) rfl), List.forall_mem_cons.mpr ⟨(mw (List.mem_of_getElem? (i := 566) (by decide +kernel)) rfl), List.forall_mem_cons.mpr ⟨(mw (List.mem_of_getElem? (i := 42) (by decide +kernel)) rfl), List.forall_mem_cons.mpr ⟨(mw (List.mem_of_getElem? (i := 567) (by decide +kernel)) rfl), fun _ h => absurd h List.not_mem_nil⟩⟩⟩⟩
theorem kc_Model_init : Cond.code y_Model_init b_Model_init 1 none ∈ Wl := (mw (List.mem_of_getElem? (i := 567) (by decide +kernel)) rfl)
theorem mo_Model_1 : Cond.methodLink R_Model 1 objectInit ∈ Wl := (mw (List.mem_of_getElem? (i := 568) (by decide +kernel)) rfl)
theorem cw_Law_17 : ∀ w ∈ (([Cond.methodLink R_law 17 y_Model_container, Cond.instanceMethod y_Model_container, Cond.selects R_Model y_Model_container y_Model_container, Cond.initialized R_Model] : List Cond) ++ [Cond.code y_Model_container b_Model_container 4 (some .int)]), w ∈ Wl := List.forall_mem_cons.mpr ⟨(mw (List.mem_of_getElem? (i := 672) (by decide +kernel)) rfl), List.forall_mem_cons.mpr ⟨(mw (List.mem_of_getElem? (i := 673) (by decide +kernel)) rfl), List.forall_mem_cons.mpr ⟨(mw (List.mem_of_getElem? (i := 674) (by decide +kernel)) rfl), List.forall_mem_cons.mpr ⟨(mw (List.mem_of_getElem? (i := 42) (by decide +kernel)) rfl), List.forall_mem_cons.mpr ⟨(mw (List.mem_of_getElem? (i := 675) (by decide +kernel)) rfl), fun _ h => absurd h List.not_mem_nil⟩⟩⟩⟩⟩
theorem kc_Model_container : Cond.code y_Model_container b_Model_container 4 (some .int) ∈ Wl := (mw (List.mem_of_getElem? (i := 675) (by decide +kernel)) rfl)
theorem cw_Model_79 : ∀ w ∈ (([Cond.methodLink R_Model 79 y_Model_isContainer, Cond.instanceMethod y_Model_isContainer, Cond.selects R_Model y_Model_isContainer y_Model_isContainer, Cond.initialized R_Model] : List Cond) ++ [Cond.code y_Model_isContainer b_Model_isContainer 2 (some .boolean)]), w ∈ Wl := List.forall_mem_cons.mpr ⟨(mw (List.mem_of_getElem? (i := 676) (by decide +kernel)) rfl), List.forall_mem_cons.mpr ⟨(mw (List.mem_of_getElem? (i := 678) (by decide +kernel)) rfl), List.forall_mem_cons.mpr ⟨(mw (List.mem_of_getElem? (i := 17) (by decide +kernel)) rfl), List.forall_mem_cons.mpr ⟨(mw (List.mem_of_getElem? (i := 42) (by decide +kernel)) rfl), List.forall_mem_cons.mpr ⟨(mw (List.mem_of_getElem? (i := 679) (by decide +kernel)) rfl), fun _ h => absurd h List.not_mem_nil⟩⟩⟩⟩⟩
theorem kc_Model_isContainer : Cond.code y_Model_isContainer b_Model_isContainer 2 (some .boolean) ∈ Wl := (mw (List.mem_of_getElem? (i := 679) (by decide +kernel)) rfl)
theorem cw_Model_75 : ∀ w ∈ (([Cond.methodLink R_Model 75 y_Model_isNode, Cond.instanceMethod y_Model_isNode, Cond.selects R_Model y_Model_isNode y_Model_isNode, Cond.initialized R_Model] : List Cond) ++ [Cond.code y_Model_isNode b_Model_isNode 2 (some .boolean)]), w ∈ Wl := List.forall_mem_cons.mpr ⟨(mw (List.mem_of_getElem? (i := 680) (by decide +kernel)) rfl), List.forall_mem_cons.mpr ⟨(mw (List.mem_of_getElem? (i := 682) (by decide +kernel)) rfl), List.forall_mem_cons.mpr ⟨(mw (List.mem_of_getElem? (i := 18) (by decide +kernel)) rfl), List.forall_mem_cons.mpr ⟨(mw (List.mem_of_getElem? (i := 42) (by decide +kernel)) rfl), List.forall_mem_cons.mpr ⟨(mw (List.mem_of_getElem? (i := 683) (by decide +kernel)) rfl), fun _ h => absurd h List.not_mem_nil⟩⟩⟩⟩⟩
theorem kc_Model_isNode : Cond.code y_Model_isNode b_Model_isNode 2 (some .boolean) ∈ Wl := (mw (List.mem_of_getElem? (i := 683) (by decide +kernel)) rfl)
theorem cw_Model_82 : ∀ w ∈ (([Cond.methodLink R_Model 82 y_Model_depth, Cond.instanceMethod y_Model_depth, Cond.selects R_Model y_Model_depth y_Model_depth, Cond.initialized R_Model] : List Cond) ++ [Cond.code y_Model_depth b_Model_depth 4 (some .int)]), w ∈ Wl := List.forall_mem_cons.mpr ⟨(mw (List.mem_of_getElem? (i := 684) (by decide +kernel)) rfl), List.forall_mem_cons.mpr ⟨(mw (List.mem_of_getElem? (i := 686) (by decide +kernel)) rfl), List.forall_mem_cons.mpr ⟨(mw (List.mem_of_getElem? (i := 19) (by decide +kernel)) rfl), List.forall_mem_cons.mpr ⟨(mw (List.mem_of_getElem? (i := 42) (by decide +kernel)) rfl), List.forall_mem_cons.mpr ⟨(mw (List.mem_of_getElem? (i := 687) (by decide +kernel)) rfl), fun _ h => absurd h List.not_mem_nil⟩⟩⟩⟩⟩
theorem kc_Model_depth : Cond.code y_Model_depth b_Model_depth 4 (some .int) ∈ Wl := (mw (List.mem_of_getElem? (i := 687) (by decide +kernel)) rfl)
theorem cw_Model_86 : ∀ w ∈ (([Cond.methodLink R_Model 86 y_Model_add, Cond.instanceMethod y_Model_add, Cond.selects R_Model y_Model_add y_Model_add, Cond.initialized R_Model] : List Cond) ++ [Cond.code y_Model_add b_Model_add 7 (some .int)]), w ∈ Wl := List.forall_mem_cons.mpr ⟨(mw (List.mem_of_getElem? (i := 688) (by decide +kernel)) rfl), List.forall_mem_cons.mpr ⟨(mw (List.mem_of_getElem? (i := 690) (by decide +kernel)) rfl), List.forall_mem_cons.mpr ⟨(mw (List.mem_of_getElem? (i := 20) (by decide +kernel)) rfl), List.forall_mem_cons.mpr ⟨(mw (List.mem_of_getElem? (i := 42) (by decide +kernel)) rfl), List.forall_mem_cons.mpr ⟨(mw (List.mem_of_getElem? (i := 691) (by decide +kernel)) rfl), fun _ h => absurd h List.not_mem_nil⟩⟩⟩⟩⟩
theorem kc_Model_add : Cond.code y_Model_add b_Model_add 7 (some .int) ∈ Wl := (mw (List.mem_of_getElem? (i := 691) (by decide +kernel)) rfl)
theorem cw_Law_22 : ∀ w ∈ (([Cond.methodLink R_law 22 y_Model_test, Cond.instanceMethod y_Model_test, Cond.selects R_Model y_Model_test y_Model_test, Cond.initialized R_Model] : List Cond) ++ [Cond.code y_Model_test b_Model_test 5 (some .int)]), w ∈ Wl := List.forall_mem_cons.mpr ⟨(mw (List.mem_of_getElem? (i := 692) (by decide +kernel)) rfl), List.forall_mem_cons.mpr ⟨(mw (List.mem_of_getElem? (i := 693) (by decide +kernel)) rfl), List.forall_mem_cons.mpr ⟨(mw (List.mem_of_getElem? (i := 694) (by decide +kernel)) rfl), List.forall_mem_cons.mpr ⟨(mw (List.mem_of_getElem? (i := 42) (by decide +kernel)) rfl), List.forall_mem_cons.mpr ⟨(mw (List.mem_of_getElem? (i := 695) (by decide +kernel)) rfl), fun _ h => absurd h List.not_mem_nil⟩⟩⟩⟩⟩
theorem kc_Model_test : Cond.code y_Model_test b_Model_test 5 (some .int) ∈ Wl := (mw (List.mem_of_getElem? (i := 695) (by decide +kernel)) rfl)
theorem cw_Law_26 : ∀ w ∈ (([Cond.methodLink R_law 26 y_Model_mark, Cond.instanceMethod y_Model_mark, Cond.selects R_Model y_Model_mark y_Model_mark, Cond.initialized R_Model] : List Cond) ++ [Cond.code y_Model_mark b_Model_mark 4 (some .int)]), w ∈ Wl := List.forall_mem_cons.mpr ⟨(mw (List.mem_of_getElem? (i := 696) (by decide +kernel)) rfl), List.forall_mem_cons.mpr ⟨(mw (List.mem_of_getElem? (i := 697) (by decide +kernel)) rfl), List.forall_mem_cons.mpr ⟨(mw (List.mem_of_getElem? (i := 698) (by decide +kernel)) rfl), List.forall_mem_cons.mpr ⟨(mw (List.mem_of_getElem? (i := 42) (by decide +kernel)) rfl), List.forall_mem_cons.mpr ⟨(mw (List.mem_of_getElem? (i := 699) (by decide +kernel)) rfl), fun _ h => absurd h List.not_mem_nil⟩⟩⟩⟩⟩
theorem kc_Model_mark : Cond.code y_Model_mark b_Model_mark 4 (some .int) ∈ Wl := (mw (List.mem_of_getElem? (i := 699) (by decide +kernel)) rfl)
theorem cw_Law_31 : ∀ w ∈ (([Cond.methodLink R_law 31 y_Model_method, Cond.instanceMethod y_Model_method, Cond.selects R_Model y_Model_method y_Model_method, Cond.initialized R_Model] : List Cond) ++ [Cond.code y_Model_method b_Model_method 7 (some .int)]), w ∈ Wl := List.forall_mem_cons.mpr ⟨(mw (List.mem_of_getElem? (i := 700) (by decide +kernel)) rfl), List.forall_mem_cons.mpr ⟨(mw (List.mem_of_getElem? (i := 701) (by decide +kernel)) rfl), List.forall_mem_cons.mpr ⟨(mw (List.mem_of_getElem? (i := 702) (by decide +kernel)) rfl), List.forall_mem_cons.mpr ⟨(mw (List.mem_of_getElem? (i := 42) (by decide +kernel)) rfl), List.forall_mem_cons.mpr ⟨(mw (List.mem_of_getElem? (i := 703) (by decide +kernel)) rfl), fun _ h => absurd h List.not_mem_nil⟩⟩⟩⟩⟩
theorem kc_Model_method : Cond.code y_Model_method b_Model_method 7 (some .int) ∈ Wl := (mw (List.mem_of_getElem? (i := 703) (by decide +kernel)) rfl)
theorem cw_Law_36 : ∀ w ∈ (([Cond.methodLink R_law 36 y_Model_without, Cond.instanceMethod y_Model_without, Cond.selects R_Model y_Model_without y_Model_without, Cond.initialized R_Model] : List Cond) ++ [Cond.code y_Model_without b_Model_without 3 (some .int)]), w ∈ Wl := List.forall_mem_cons.mpr ⟨(mw (List.mem_of_getElem? (i := 704) (by decide +kernel)) rfl), List.forall_mem_cons.mpr ⟨(mw (List.mem_of_getElem? (i := 705) (by decide +kernel)) rfl), List.forall_mem_cons.mpr ⟨(mw (List.mem_of_getElem? (i := 706) (by decide +kernel)) rfl), List.forall_mem_cons.mpr ⟨(mw (List.mem_of_getElem? (i := 42) (by decide +kernel)) rfl), List.forall_mem_cons.mpr ⟨(mw (List.mem_of_getElem? (i := 707) (by decide +kernel)) rfl), fun _ h => absurd h List.not_mem_nil⟩⟩⟩⟩⟩
theorem kc_Model_without : Cond.code y_Model_without b_Model_without 3 (some .int) ∈ Wl := (mw (List.mem_of_getElem? (i := 707) (by decide +kernel)) rfl)
theorem cw_Law_41 : ∀ w ∈ (([Cond.methodLink R_law 41 y_Model_run, Cond.instanceMethod y_Model_run, Cond.selects R_Model y_Model_run y_Model_run, Cond.initialized R_Model] : List Cond) ++ [Cond.code y_Model_run b_Model_run 6 (some .int)]), w ∈ Wl := List.forall_mem_cons.mpr ⟨(mw (List.mem_of_getElem? (i := 708) (by decide +kernel)) rfl), List.forall_mem_cons.mpr ⟨(mw (List.mem_of_getElem? (i := 709) (by decide +kernel)) rfl), List.forall_mem_cons.mpr ⟨(mw (List.mem_of_getElem? (i := 710) (by decide +kernel)) rfl), List.forall_mem_cons.mpr ⟨(mw (List.mem_of_getElem? (i := 42) (by decide +kernel)) rfl), List.forall_mem_cons.mpr ⟨(mw (List.mem_of_getElem? (i := 711) (by decide +kernel)) rfl), fun _ h => absurd h List.not_mem_nil⟩⟩⟩⟩⟩
theorem kc_Model_run : Cond.code y_Model_run b_Model_run 6 (some .int) ∈ Wl := (mw (List.mem_of_getElem? (i := 711) (by decide +kernel)) rfl)
theorem cw_Model_164 : ∀ w ∈ (([Cond.methodLink R_Model 164 y_Model_choose, Cond.instanceMethod y_Model_choose, Cond.selects R_Model y_Model_choose y_Model_choose, Cond.initialized R_Model] : List Cond) ++ [Cond.code y_Model_choose b_Model_choose 6 none]), w ∈ Wl := List.forall_mem_cons.mpr ⟨(mw (List.mem_of_getElem? (i := 712) (by decide +kernel)) rfl), List.forall_mem_cons.mpr ⟨(mw (List.mem_of_getElem? (i := 714) (by decide +kernel)) rfl), List.forall_mem_cons.mpr ⟨(mw (List.mem_of_getElem? (i := 21) (by decide +kernel)) rfl), List.forall_mem_cons.mpr ⟨(mw (List.mem_of_getElem? (i := 42) (by decide +kernel)) rfl), List.forall_mem_cons.mpr ⟨(mw (List.mem_of_getElem? (i := 715) (by decide +kernel)) rfl), fun _ h => absurd h List.not_mem_nil⟩⟩⟩⟩⟩
theorem kc_Model_choose : Cond.code y_Model_choose b_Model_choose 6 none ∈ Wl := (mw (List.mem_of_getElem? (i := 715) (by decide +kernel)) rfl)
theorem cw_Model_167 : ∀ w ∈ (([Cond.methodLink R_Model 167 y_Model_doNode, Cond.instanceMethod y_Model_doNode, Cond.selects R_Model y_Model_doNode y_Model_doNode, Cond.initialized R_Model] : List Cond) ++ [Cond.code y_Model_doNode b_Model_doNode 3 none]), w ∈ Wl := List.forall_mem_cons.mpr ⟨(mw (List.mem_of_getElem? (i := 716) (by decide +kernel)) rfl), List.forall_mem_cons.mpr ⟨(mw (List.mem_of_getElem? (i := 718) (by decide +kernel)) rfl), List.forall_mem_cons.mpr ⟨(mw (List.mem_of_getElem? (i := 22) (by decide +kernel)) rfl), List.forall_mem_cons.mpr ⟨(mw (List.mem_of_getElem? (i := 42) (by decide +kernel)) rfl), List.forall_mem_cons.mpr ⟨(mw (List.mem_of_getElem? (i := 719) (by decide +kernel)) rfl), fun _ h => absurd h List.not_mem_nil⟩⟩⟩⟩⟩
theorem kc_Model_doNode : Cond.code y_Model_doNode b_Model_doNode 3 none ∈ Wl := (mw (List.mem_of_getElem? (i := 719) (by decide +kernel)) rfl)
theorem cw_Model_148 : ∀ w ∈ (([Cond.methodLink R_Model 148 y_Model_broken, Cond.instanceMethod y_Model_broken, Cond.selects R_Model y_Model_broken y_Model_broken, Cond.initialized R_Model] : List Cond) ++ [Cond.code y_Model_broken b_Model_broken 1 (some .boolean)]), w ∈ Wl := List.forall_mem_cons.mpr ⟨(mw (List.mem_of_getElem? (i := 720) (by decide +kernel)) rfl), List.forall_mem_cons.mpr ⟨(mw (List.mem_of_getElem? (i := 722) (by decide +kernel)) rfl), List.forall_mem_cons.mpr ⟨(mw (List.mem_of_getElem? (i := 23) (by decide +kernel)) rfl), List.forall_mem_cons.mpr ⟨(mw (List.mem_of_getElem? (i := 42) (by decide +kernel)) rfl), List.forall_mem_cons.mpr ⟨(mw (List.mem_of_getElem? (i := 723) (by decide +kernel)) rfl), fun _ h => absurd h List.not_mem_nil⟩⟩⟩⟩⟩
theorem kc_Model_broken : Cond.code y_Model_broken b_Model_broken 1 (some .boolean) ∈ Wl := (mw (List.mem_of_getElem? (i := 723) (by decide +kernel)) rfl)
theorem cw_Model_109 : ∀ w ∈ (([Cond.methodLink R_Model 109 y_Model_note, Cond.instanceMethod y_Model_note, Cond.selects R_Model y_Model_note y_Model_note, Cond.initialized R_Model] : List Cond) ++ [Cond.code y_Model_note b_Model_note 6 none]), w ∈ Wl := List.forall_mem_cons.mpr ⟨(mw (List.mem_of_getElem? (i := 724) (by decide +kernel)) rfl), List.forall_mem_cons.mpr ⟨(mw (List.mem_of_getElem? (i := 726) (by decide +kernel)) rfl), List.forall_mem_cons.mpr ⟨(mw (List.mem_of_getElem? (i := 24) (by decide +kernel)) rfl), List.forall_mem_cons.mpr ⟨(mw (List.mem_of_getElem? (i := 42) (by decide +kernel)) rfl), List.forall_mem_cons.mpr ⟨(mw (List.mem_of_getElem? (i := 727) (by decide +kernel)) rfl), fun _ h => absurd h List.not_mem_nil⟩⟩⟩⟩⟩
theorem kc_Model_note : Cond.code y_Model_note b_Model_note 6 none ∈ Wl := (mw (List.mem_of_getElem? (i := 727) (by decide +kernel)) rfl)
theorem cw_Model_152 : ∀ w ∈ (([Cond.methodLink R_Model 152 y_Model_enter, Cond.instanceMethod y_Model_enter, Cond.selects R_Model y_Model_enter y_Model_enter, Cond.initialized R_Model] : List Cond) ++ [Cond.code y_Model_enter b_Model_enter 3 none]), w ∈ Wl := List.forall_mem_cons.mpr ⟨(mw (List.mem_of_getElem? (i := 728) (by decide +kernel)) rfl), List.forall_mem_cons.mpr ⟨(mw (List.mem_of_getElem? (i := 730) (by decide +kernel)) rfl), List.forall_mem_cons.mpr ⟨(mw (List.mem_of_getElem? (i := 25) (by decide +kernel)) rfl), List.forall_mem_cons.mpr ⟨(mw (List.mem_of_getElem? (i := 42) (by decide +kernel)) rfl), List.forall_mem_cons.mpr ⟨(mw (List.mem_of_getElem? (i := 731) (by decide +kernel)) rfl), fun _ h => absurd h List.not_mem_nil⟩⟩⟩⟩⟩
theorem kc_Model_enter : Cond.code y_Model_enter b_Model_enter 3 none ∈ Wl := (mw (List.mem_of_getElem? (i := 731) (by decide +kernel)) rfl)
theorem cw_Model_141 : ∀ w ∈ (([Cond.methodLink R_Model 141 y_Model_call, Cond.instanceMethod y_Model_call, Cond.selects R_Model y_Model_call y_Model_call, Cond.initialized R_Model] : List Cond) ++ [Cond.code y_Model_call b_Model_call 5 none]), w ∈ Wl := List.forall_mem_cons.mpr ⟨(mw (List.mem_of_getElem? (i := 732) (by decide +kernel)) rfl), List.forall_mem_cons.mpr ⟨(mw (List.mem_of_getElem? (i := 734) (by decide +kernel)) rfl), List.forall_mem_cons.mpr ⟨(mw (List.mem_of_getElem? (i := 26) (by decide +kernel)) rfl), List.forall_mem_cons.mpr ⟨(mw (List.mem_of_getElem? (i := 42) (by decide +kernel)) rfl), List.forall_mem_cons.mpr ⟨(mw (List.mem_of_getElem? (i := 735) (by decide +kernel)) rfl), fun _ h => absurd h List.not_mem_nil⟩⟩⟩⟩⟩
theorem kc_Model_call : Cond.code y_Model_call b_Model_call 5 none ∈ Wl := (mw (List.mem_of_getElem? (i := 735) (by decide +kernel)) rfl)
theorem cw_Model_99 : ∀ w ∈ (([Cond.methodLink R_Model 99 y_Model_gather, Cond.instanceMethod y_Model_gather, Cond.selects R_Model y_Model_gather y_Model_gather, Cond.initialized R_Model] : List Cond) ++ [Cond.code y_Model_gather b_Model_gather 5 none]), w ∈ Wl := List.forall_mem_cons.mpr ⟨(mw (List.mem_of_getElem? (i := 736) (by decide +kernel)) rfl), List.forall_mem_cons.mpr ⟨(mw (List.mem_of_getElem? (i := 738) (by decide +kernel)) rfl), List.forall_mem_cons.mpr ⟨(mw (List.mem_of_getElem? (i := 27) (by decide +kernel)) rfl), List.forall_mem_cons.mpr ⟨(mw (List.mem_of_getElem? (i := 42) (by decide +kernel)) rfl), List.forall_mem_cons.mpr ⟨(mw (List.mem_of_getElem? (i := 739) (by decide +kernel)) rfl), fun _ h => absurd h List.not_mem_nil⟩⟩⟩⟩⟩
theorem kc_Model_gather : Cond.code y_Model_gather b_Model_gather 5 none ∈ Wl := (mw (List.mem_of_getElem? (i := 739) (by decide +kernel)) rfl)
theorem cw_Model_156 : ∀ w ∈ (([Cond.methodLink R_Model 156 y_Model_round, Cond.instanceMethod y_Model_round, Cond.selects R_Model y_Model_round y_Model_round, Cond.initialized R_Model] : List Cond) ++ [Cond.code y_Model_round b_Model_round 5 none]), w ∈ Wl := List.forall_mem_cons.mpr ⟨(mw (List.mem_of_getElem? (i := 740) (by decide +kernel)) rfl), List.forall_mem_cons.mpr ⟨(mw (List.mem_of_getElem? (i := 742) (by decide +kernel)) rfl), List.forall_mem_cons.mpr ⟨(mw (List.mem_of_getElem? (i := 28) (by decide +kernel)) rfl), List.forall_mem_cons.mpr ⟨(mw (List.mem_of_getElem? (i := 42) (by decide +kernel)) rfl), List.forall_mem_cons.mpr ⟨(mw (List.mem_of_getElem? (i := 743) (by decide +kernel)) rfl), fun _ h => absurd h List.not_mem_nil⟩⟩⟩⟩⟩
theorem kc_Model_round : Cond.code y_Model_round b_Model_round 5 none ∈ Wl := (mw (List.mem_of_getElem? (i := 743) (by decide +kernel)) rfl)
theorem cw_Model_144 : ∀ w ∈ (([Cond.methodLink R_Model 144 y_Model_finish, Cond.instanceMethod y_Model_finish, Cond.selects R_Model y_Model_finish y_Model_finish, Cond.initialized R_Model] : List Cond) ++ [Cond.code y_Model_finish b_Model_finish 9 none]), w ∈ Wl := List.forall_mem_cons.mpr ⟨(mw (List.mem_of_getElem? (i := 744) (by decide +kernel)) rfl), List.forall_mem_cons.mpr ⟨(mw (List.mem_of_getElem? (i := 746) (by decide +kernel)) rfl), List.forall_mem_cons.mpr ⟨(mw (List.mem_of_getElem? (i := 29) (by decide +kernel)) rfl), List.forall_mem_cons.mpr ⟨(mw (List.mem_of_getElem? (i := 42) (by decide +kernel)) rfl), List.forall_mem_cons.mpr ⟨(mw (List.mem_of_getElem? (i := 747) (by decide +kernel)) rfl), fun _ h => absurd h List.not_mem_nil⟩⟩⟩⟩⟩
theorem kc_Model_finish : Cond.code y_Model_finish b_Model_finish 9 none ∈ Wl := (mw (List.mem_of_getElem? (i := 747) (by decide +kernel)) rfl)
theorem cw_Model_113 : ∀ w ∈ (([Cond.methodLink R_Model 113 y_Model_status, Cond.instanceMethod y_Model_status, Cond.selects R_Model y_Model_status y_Model_status, Cond.initialized R_Model] : List Cond) ++ [Cond.code y_Model_status b_Model_status 2 (some .int)]), w ∈ Wl := List.forall_mem_cons.mpr ⟨(mw (List.mem_of_getElem? (i := 748) (by decide +kernel)) rfl), List.forall_mem_cons.mpr ⟨(mw (List.mem_of_getElem? (i := 750) (by decide +kernel)) rfl), List.forall_mem_cons.mpr ⟨(mw (List.mem_of_getElem? (i := 30) (by decide +kernel)) rfl), List.forall_mem_cons.mpr ⟨(mw (List.mem_of_getElem? (i := 42) (by decide +kernel)) rfl), List.forall_mem_cons.mpr ⟨(mw (List.mem_of_getElem? (i := 751) (by decide +kernel)) rfl), fun _ h => absurd h List.not_mem_nil⟩⟩⟩⟩⟩
theorem kc_Model_status : Cond.code y_Model_status b_Model_status 2 (some .int) ∈ Wl := (mw (List.mem_of_getElem? (i := 751) (by decide +kernel)) rfl)
theorem cw_Model_170 : ∀ w ∈ (([Cond.methodLink R_Model 170 y_Model_nextChild, Cond.instanceMethod y_Model_nextChild, Cond.selects R_Model y_Model_nextChild y_Model_nextChild, Cond.initialized R_Model] : List Cond) ++ [Cond.code y_Model_nextChild b_Model_nextChild 5 (some .int)]), w ∈ Wl := List.forall_mem_cons.mpr ⟨(mw (List.mem_of_getElem? (i := 752) (by decide +kernel)) rfl), List.forall_mem_cons.mpr ⟨(mw (List.mem_of_getElem? (i := 754) (by decide +kernel)) rfl), List.forall_mem_cons.mpr ⟨(mw (List.mem_of_getElem? (i := 31) (by decide +kernel)) rfl), List.forall_mem_cons.mpr ⟨(mw (List.mem_of_getElem? (i := 42) (by decide +kernel)) rfl), List.forall_mem_cons.mpr ⟨(mw (List.mem_of_getElem? (i := 755) (by decide +kernel)) rfl), fun _ h => absurd h List.not_mem_nil⟩⟩⟩⟩⟩
theorem kc_Model_nextChild : Cond.code y_Model_nextChild b_Model_nextChild 5 (some .int) ∈ Wl := (mw (List.mem_of_getElem? (i := 755) (by decide +kernel)) rfl)
theorem cw_Model_160 : ∀ w ∈ (([Cond.methodLink R_Model 160 y_Model_before, Cond.instanceMethod y_Model_before, Cond.selects R_Model y_Model_before y_Model_before, Cond.initialized R_Model] : List Cond) ++ [Cond.code y_Model_before b_Model_before 3 (some .boolean)]), w ∈ Wl := List.forall_mem_cons.mpr ⟨(mw (List.mem_of_getElem? (i := 756) (by decide +kernel)) rfl), List.forall_mem_cons.mpr ⟨(mw (List.mem_of_getElem? (i := 758) (by decide +kernel)) rfl), List.forall_mem_cons.mpr ⟨(mw (List.mem_of_getElem? (i := 32) (by decide +kernel)) rfl), List.forall_mem_cons.mpr ⟨(mw (List.mem_of_getElem? (i := 42) (by decide +kernel)) rfl), List.forall_mem_cons.mpr ⟨(mw (List.mem_of_getElem? (i := 759) (by decide +kernel)) rfl), fun _ h => absurd h List.not_mem_nil⟩⟩⟩⟩⟩
theorem kc_Model_before : Cond.code y_Model_before b_Model_before 3 (some .boolean) ∈ Wl := (mw (List.mem_of_getElem? (i := 759) (by decide +kernel)) rfl)
theorem cw_Model_174 : ∀ w ∈ (([Cond.methodLink R_Model 174 y_Model_leave, Cond.instanceMethod y_Model_leave, Cond.selects R_Model y_Model_leave y_Model_leave, Cond.initialized R_Model] : List Cond) ++ [Cond.code y_Model_leave b_Model_leave 3 none]), w ∈ Wl := List.forall_mem_cons.mpr ⟨(mw (List.mem_of_getElem? (i := 760) (by decide +kernel)) rfl), List.forall_mem_cons.mpr ⟨(mw (List.mem_of_getElem? (i := 762) (by decide +kernel)) rfl), List.forall_mem_cons.mpr ⟨(mw (List.mem_of_getElem? (i := 33) (by decide +kernel)) rfl), List.forall_mem_cons.mpr ⟨(mw (List.mem_of_getElem? (i := 42) (by decide +kernel)) rfl), List.forall_mem_cons.mpr ⟨(mw (List.mem_of_getElem? (i := 763) (by decide +kernel)) rfl), fun _ h => absurd h List.not_mem_nil⟩⟩⟩⟩⟩
theorem kc_Model_leave : Cond.code y_Model_leave b_Model_leave 3 none ∈ Wl := (mw (List.mem_of_getElem? (i := 763) (by decide +kernel)) rfl)
theorem cw_Law_45 : ∀ w ∈ (([Cond.methodLink R_law 45 y_Model_event, Cond.instanceMethod y_Model_event, Cond.selects R_Model y_Model_event y_Model_event, Cond.initialized R_Model] : List Cond) ++ [Cond.code y_Model_event b_Model_event 3 (some .int)]), w ∈ Wl := List.forall_mem_cons.mpr ⟨(mw (List.mem_of_getElem? (i := 764) (by decide +kernel)) rfl), List.forall_mem_cons.mpr ⟨(mw (List.mem_of_getElem? (i := 765) (by decide +kernel)) rfl), List.forall_mem_cons.mpr ⟨(mw (List.mem_of_getElem? (i := 766) (by decide +kernel)) rfl), List.forall_mem_cons.mpr ⟨(mw (List.mem_of_getElem? (i := 42) (by decide +kernel)) rfl), List.forall_mem_cons.mpr ⟨(mw (List.mem_of_getElem? (i := 767) (by decide +kernel)) rfl), fun _ h => absurd h List.not_mem_nil⟩⟩⟩⟩⟩
theorem kc_Model_event : Cond.code y_Model_event b_Model_event 3 (some .int) ∈ Wl := (mw (List.mem_of_getElem? (i := 767) (by decide +kernel)) rfl)
theorem cw_Law_49 : ∀ w ∈ (([Cond.methodLink R_law 49 y_Model_trouble, Cond.instanceMethod y_Model_trouble, Cond.selects R_Model y_Model_trouble y_Model_trouble, Cond.initialized R_Model] : List Cond) ++ [Cond.code y_Model_trouble b_Model_trouble 3 (some .int)]), w ∈ Wl := List.forall_mem_cons.mpr ⟨(mw (List.mem_of_getElem? (i := 768) (by decide +kernel)) rfl), List.forall_mem_cons.mpr ⟨(mw (List.mem_of_getElem? (i := 769) (by decide +kernel)) rfl), List.forall_mem_cons.mpr ⟨(mw (List.mem_of_getElem? (i := 770) (by decide +kernel)) rfl), List.forall_mem_cons.mpr ⟨(mw (List.mem_of_getElem? (i := 42) (by decide +kernel)) rfl), List.forall_mem_cons.mpr ⟨(mw (List.mem_of_getElem? (i := 771) (by decide +kernel)) rfl), fun _ h => absurd h List.not_mem_nil⟩⟩⟩⟩⟩
theorem kc_Model_trouble : Cond.code y_Model_trouble b_Model_trouble 3 (some .int) ∈ Wl := (mw (List.mem_of_getElem? (i := 771) (by decide +kernel)) rfl)
theorem cw_Law_54 : ∀ w ∈ (([Cond.methodLink R_law 54 y_Model_count, Cond.instanceMethod y_Model_count, Cond.selects R_Model y_Model_count y_Model_count, Cond.initialized R_Model] : List Cond) ++ [Cond.code y_Model_count b_Model_count 2 (some .int)]), w ∈ Wl := List.forall_mem_cons.mpr ⟨(mw (List.mem_of_getElem? (i := 772) (by decide +kernel)) rfl), List.forall_mem_cons.mpr ⟨(mw (List.mem_of_getElem? (i := 773) (by decide +kernel)) rfl), List.forall_mem_cons.mpr ⟨(mw (List.mem_of_getElem? (i := 774) (by decide +kernel)) rfl), List.forall_mem_cons.mpr ⟨(mw (List.mem_of_getElem? (i := 42) (by decide +kernel)) rfl), List.forall_mem_cons.mpr ⟨(mw (List.mem_of_getElem? (i := 775) (by decide +kernel)) rfl), fun _ h => absurd h List.not_mem_nil⟩⟩⟩⟩⟩
theorem kc_Model_count : Cond.code y_Model_count b_Model_count 2 (some .int) ∈ Wl := (mw (List.mem_of_getElem? (i := 775) (by decide +kernel)) rfl)
end
section
theorem d_Choice_init_0 : decode b_Choice_init 0 = .ok (.aload_n 0, 1) := by decide +kernel
theorem d_Choice_init_1 : decode b_Choice_init 1 = .ok (.invokespecial 3, 3) := by decide +kernel
theorem d_Choice_init_4 : decode b_Choice_init 4 = .ok (.aload_n 0, 1) := by decide +kernel
theorem d_Choice_init_5 : decode b_Choice_init 5 = .ok (.aload_n 1, 1) := by decide +kernel
theorem d_Choice_init_6 : decode b_Choice_init 6 = .ok (.putfield 9, 3) := by decide +kernel
theorem d_Choice_init_9 : decode b_Choice_init 9 = .ok (.aload_n 0, 1) := by decide +kernel
theorem d_Choice_init_10 : decode b_Choice_init 10 = .ok (.bipush 24, 2) := by decide +kernel
theorem d_Choice_init_12 : decode b_Choice_init 12 = .ok (.newarray .int, 2) := by decide +kernel
theorem d_Choice_init_14 : decode b_Choice_init 14 = .ok (.putfield 15, 3) := by decide +kernel
theorem d_Choice_init_17 : decode b_Choice_init 17 = .ok (.aload_n 0, 1) := by decide +kernel
theorem d_Choice_init_18 : decode b_Choice_init 18 = .ok (.bipush 24, 2) := by decide +kernel
theorem d_Choice_init_20 : decode b_Choice_init 20 = .ok (.newarray .boolean, 2) := by decide +kernel
theorem d_Choice_init_22 : decode b_Choice_init 22 = .ok (.putfield 19, 3) := by decide +kernel
theorem d_Choice_init_25 : decode b_Choice_init 25 = .ok (.return_, 1) := by decide +kernel
theorem d_Choice_choose_0 : decode b_Choice_choose 0 = .ok (.aload_n 0, 1) := by decide +kernel
theorem d_Choice_choose_1 : decode b_Choice_choose 1 = .ok (.invokevirtual 23, 3) := by decide +kernel
theorem d_Choice_choose_4 : decode b_Choice_choose 4 = .ok (.aload_n 0, 1) := by decide +kernel
theorem d_Choice_choose_5 : decode b_Choice_choose 5 = .ok (.iconst 0, 1) := by decide +kernel
theorem d_Choice_choose_6 : decode b_Choice_choose 6 = .ok (.putfield 26, 3) := by decide +kernel
theorem d_Choice_choose_9 : decode b_Choice_choose 9 = .ok (.iconst 0, 1) := by decide +kernel
theorem d_Choice_choose_10 : decode b_Choice_choose 10 = .ok (.istore_n 3, 1) := by decide +kernel
theorem d_Choice_choose_11 : decode b_Choice_choose 11 = .ok (.iload_n 3, 1) := by decide +kernel
theorem d_Choice_choose_12 : decode b_Choice_choose 12 = .ok (.aload_n 0, 1) := by decide +kernel
theorem d_Choice_choose_13 : decode b_Choice_choose 13 = .ok (.getfield 9, 3) := by decide +kernel
theorem d_Choice_choose_16 : decode b_Choice_choose 16 = .ok (.invokevirtual 30, 3) := by decide +kernel
theorem d_Choice_choose_19 : decode b_Choice_choose 19 = .ok (.if_icmp .ge 64, 3) := by decide +kernel
theorem d_Choice_choose_22 : decode b_Choice_choose 22 = .ok (.aload_n 0, 1) := by decide +kernel
theorem d_Choice_choose_23 : decode b_Choice_choose 23 = .ok (.getfield 19, 3) := by decide +kernel
theorem d_Choice_choose_26 : decode b_Choice_choose 26 = .ok (.iload_n 3, 1) := by decide +kernel
theorem d_Choice_choose_27 : decode b_Choice_choose 27 = .ok (.aload_n 0, 1) := by decide +kernel
theorem d_Choice_choose_28 : decode b_Choice_choose 28 = .ok (.getfield 9, 3) := by decide +kernel
theorem d_Choice_choose_31 : decode b_Choice_choose 31 = .ok (.iload_n 3, 1) := by decide +kernel
theorem d_Choice_choose_32 : decode b_Choice_choose 32 = .ok (.invokevirtual 36, 3) := by decide +kernel
theorem d_Choice_choose_35 : decode b_Choice_choose 35 = .ok (.ifCond .ne 21, 3) := by decide +kernel
theorem d_Choice_choose_38 : decode b_Choice_choose 38 = .ok (.aload_n 0, 1) := by decide +kernel
theorem d_Choice_choose_39 : decode b_Choice_choose 39 = .ok (.getfield 15, 3) := by decide +kernel
theorem d_Choice_choose_42 : decode b_Choice_choose 42 = .ok (.iload_n 3, 1) := by decide +kernel
theorem d_Choice_choose_43 : decode b_Choice_choose 43 = .ok (.iaload, 1) := by decide +kernel
theorem d_Choice_choose_44 : decode b_Choice_choose 44 = .ok (.iload_n 1, 1) := by decide +kernel
theorem d_Choice_choose_45 : decode b_Choice_choose 45 = .ok (.iload_n 2, 1) := by decide +kernel
theorem d_Choice_choose_46 : decode b_Choice_choose 46 = .ok (.invokestatic 40, 3) := by decide +kernel
theorem d_Choice_choose_49 : decode b_Choice_choose 49 = .ok (.ifCond .eq 7, 3) := by decide +kernel
theorem d_Choice_choose_52 : decode b_Choice_choose 52 = .ok (.iconst 1, 1) := by decide +kernel
theorem d_Choice_choose_53 : decode b_Choice_choose 53 = .ok (.goto 4, 3) := by decide +kernel
theorem d_Choice_choose_56 : decode b_Choice_choose 56 = .ok (.iconst 0, 1) := by decide +kernel
theorem d_Choice_choose_57 : decode b_Choice_choose 57 = .ok (.bastore, 1) := by decide +kernel
theorem d_Choice_choose_58 : decode b_Choice_choose 58 = .ok (.aload_n 0, 1) := by decide +kernel
theorem d_Choice_choose_59 : decode b_Choice_choose 59 = .ok (.getfield 19, 3) := by decide +kernel
theorem d_Choice_choose_62 : decode b_Choice_choose 62 = .ok (.iload_n 3, 1) := by decide +kernel
theorem d_Choice_choose_63 : decode b_Choice_choose 63 = .ok (.baload, 1) := by decide +kernel
theorem d_Choice_choose_64 : decode b_Choice_choose 64 = .ok (.ifCond .eq 13, 3) := by decide +kernel
theorem d_Choice_choose_67 : decode b_Choice_choose 67 = .ok (.aload_n 0, 1) := by decide +kernel
theorem d_Choice_choose_68 : decode b_Choice_choose 68 = .ok (.dup, 1) := by decide +kernel
theorem d_Choice_choose_69 : decode b_Choice_choose 69 = .ok (.getfield 26, 3) := by decide +kernel
theorem d_Choice_choose_72 : decode b_Choice_choose 72 = .ok (.iconst 1, 1) := by decide +kernel
theorem d_Choice_choose_73 : decode b_Choice_choose 73 = .ok (.iadd, 1) := by decide +kernel
theorem d_Choice_choose_74 : decode b_Choice_choose 74 = .ok (.putfield 26, 3) := by decide +kernel
theorem d_Choice_choose_77 : decode b_Choice_choose 77 = .ok (.iinc 3 1, 3) := by decide +kernel
theorem d_Choice_choose_80 : decode b_Choice_choose 80 = .ok (.goto (-69), 3) := by decide +kernel
theorem d_Choice_choose_83 : decode b_Choice_choose 83 = .ok (.aload_n 0, 1) := by decide +kernel
theorem d_Choice_choose_84 : decode b_Choice_choose 84 = .ok (.invokevirtual 44, 3) := by decide +kernel
theorem d_Choice_choose_87 : decode b_Choice_choose 87 = .ok (.return_, 1) := by decide +kernel
theorem d_Choice_gatherTags_0 : decode b_Choice_gatherTags 0 = .ok (.aload_n 0, 1) := by decide +kernel
theorem d_Choice_gatherTags_1 : decode b_Choice_gatherTags 1 = .ok (.getfield 15, 3) := by decide +kernel
theorem d_Choice_gatherTags_4 : decode b_Choice_gatherTags 4 = .ok (.iconst 0, 1) := by decide +kernel
theorem d_Choice_gatherTags_5 : decode b_Choice_gatherTags 5 = .ok (.aload_n 0, 1) := by decide +kernel
theorem d_Choice_gatherTags_6 : decode b_Choice_gatherTags 6 = .ok (.getfield 9, 3) := by decide +kernel
theorem d_Choice_gatherTags_9 : decode b_Choice_gatherTags 9 = .ok (.iconst 0, 1) := by decide +kernel
theorem d_Choice_gatherTags_10 : decode b_Choice_gatherTags 10 = .ok (.invokevirtual 47, 3) := by decide +kernel
theorem d_Choice_gatherTags_13 : decode b_Choice_gatherTags 13 = .ok (.iastore, 1) := by decide +kernel
theorem d_Choice_gatherTags_14 : decode b_Choice_gatherTags 14 = .ok (.iconst 1, 1) := by decide +kernel
theorem d_Choice_gatherTags_15 : decode b_Choice_gatherTags 15 = .ok (.istore_n 1, 1) := by decide +kernel
theorem d_Choice_gatherTags_16 : decode b_Choice_gatherTags 16 = .ok (.iload_n 1, 1) := by decide +kernel
theorem d_Choice_gatherTags_17 : decode b_Choice_gatherTags 17 = .ok (.aload_n 0, 1) := by decide +kernel
theorem d_Choice_gatherTags_18 : decode b_Choice_gatherTags 18 = .ok (.getfield 9, 3) := by decide +kernel
theorem d_Choice_gatherTags_21 : decode b_Choice_gatherTags 21 = .ok (.invokevirtual 30, 3) := by decide +kernel
theorem d_Choice_gatherTags_24 : decode b_Choice_gatherTags 24 = .ok (.if_icmp .ge 37, 3) := by decide +kernel
theorem d_Choice_gatherTags_27 : decode b_Choice_gatherTags 27 = .ok (.aload_n 0, 1) := by decide +kernel
theorem d_Choice_gatherTags_28 : decode b_Choice_gatherTags 28 = .ok (.getfield 15, 3) := by decide +kernel
theorem d_Choice_gatherTags_31 : decode b_Choice_gatherTags 31 = .ok (.iload_n 1, 1) := by decide +kernel
theorem d_Choice_gatherTags_32 : decode b_Choice_gatherTags 32 = .ok (.aload_n 0, 1) := by decide +kernel
theorem d_Choice_gatherTags_33 : decode b_Choice_gatherTags 33 = .ok (.getfield 9, 3) := by decide +kernel
theorem d_Choice_gatherTags_36 : decode b_Choice_gatherTags 36 = .ok (.iload_n 1, 1) := by decide +kernel
theorem d_Choice_gatherTags_37 : decode b_Choice_gatherTags 37 = .ok (.invokevirtual 47, 3) := by decide +kernel
theorem d_Choice_gatherTags_40 : decode b_Choice_gatherTags 40 = .ok (.aload_n 0, 1) := by decide +kernel
theorem d_Choice_gatherTags_41 : decode b_Choice_gatherTags 41 = .ok (.getfield 15, 3) := by decide +kernel
theorem d_Choice_gatherTags_44 : decode b_Choice_gatherTags 44 = .ok (.aload_n 0, 1) := by decide +kernel
theorem d_Choice_gatherTags_45 : decode b_Choice_gatherTags 45 = .ok (.getfield 9, 3) := by decide +kernel
theorem d_Choice_gatherTags_48 : decode b_Choice_gatherTags 48 = .ok (.iload_n 1, 1) := by decide +kernel
theorem d_Choice_gatherTags_49 : decode b_Choice_gatherTags 49 = .ok (.invokevirtual 51, 3) := by decide +kernel
theorem d_Choice_gatherTags_52 : decode b_Choice_gatherTags 52 = .ok (.iaload, 1) := by decide +kernel
theorem d_Choice_gatherTags_53 : decode b_Choice_gatherTags 53 = .ok (.ior, 1) := by decide +kernel
theorem d_Choice_gatherTags_54 : decode b_Choice_gatherTags 54 = .ok (.iastore, 1) := by decide +kernel
theorem d_Choice_gatherTags_55 : decode b_Choice_gatherTags 55 = .ok (.iinc 1 1, 3) := by decide +kernel
theorem d_Choice_gatherTags_58 : decode b_Choice_gatherTags 58 = .ok (.goto (-42), 3) := by decide +kernel
theorem d_Choice_gatherTags_61 : decode b_Choice_gatherTags 61 = .ok (.return_, 1) := by decide +kernel
theorem d_Choice_chooseContainers_0 : decode b_Choice_chooseContainers 0 = .ok (.aload_n 0, 1) := by decide +kernel
theorem d_Choice_chooseContainers_1 : decode b_Choice_chooseContainers 1 = .ok (.getfield 9, 3) := by decide +kernel
theorem d_Choice_chooseContainers_4 : decode b_Choice_chooseContainers 4 = .ok (.invokevirtual 30, 3) := by decide +kernel
theorem d_Choice_chooseContainers_7 : decode b_Choice_chooseContainers 7 = .ok (.iconst 1, 1) := by decide +kernel
theorem d_Choice_chooseContainers_8 : decode b_Choice_chooseContainers 8 = .ok (.isub, 1) := by decide +kernel
theorem d_Choice_chooseContainers_9 : decode b_Choice_chooseContainers 9 = .ok (.istore_n 1, 1) := by decide +kernel
theorem d_Choice_chooseContainers_10 : decode b_Choice_chooseContainers 10 = .ok (.iload_n 1, 1) := by decide +kernel
theorem d_Choice_chooseContainers_11 : decode b_Choice_chooseContainers 11 = .ok (.ifCond .le 32, 3) := by decide +kernel
theorem d_Choice_chooseContainers_14 : decode b_Choice_chooseContainers 14 = .ok (.aload_n 0, 1) := by decide +kernel
theorem d_Choice_chooseContainers_15 : decode b_Choice_chooseContainers 15 = .ok (.getfield 19, 3) := by decide +kernel
theorem d_Choice_chooseContainers_18 : decode b_Choice_chooseContainers 18 = .ok (.iload_n 1, 1) := by decide +kernel
theorem d_Choice_chooseContainers_19 : decode b_Choice_chooseContainers 19 = .ok (.baload, 1) := by decide +kernel
theorem d_Choice_chooseContainers_20 : decode b_Choice_chooseContainers 20 = .ok (.ifCond .eq 17, 3) := by decide +kernel
theorem d_Choice_chooseContainers_23 : decode b_Choice_chooseContainers 23 = .ok (.aload_n 0, 1) := by decide +kernel
theorem d_Choice_chooseContainers_24 : decode b_Choice_chooseContainers 24 = .ok (.getfield 19, 3) := by decide +kernel
theorem d_Choice_chooseContainers_27 : decode b_Choice_chooseContainers 27 = .ok (.aload_n 0, 1) := by decide +kernel
theorem d_Choice_chooseContainers_28 : decode b_Choice_chooseContainers 28 = .ok (.getfield 9, 3) := by decide +kernel
theorem d_Choice_chooseContainers_31 : decode b_Choice_chooseContainers 31 = .ok (.iload_n 1, 1) := by decide +kernel
theorem d_Choice_chooseContainers_32 : decode b_Choice_chooseContainers 32 = .ok (.invokevirtual 51, 3) := by decide +kernel
theorem d_Choice_chooseContainers_35 : decode b_Choice_chooseContainers 35 = .ok (.iconst 1, 1) := by decide +kernel
theorem d_Choice_chooseContainers_36 : decode b_Choice_chooseContainers 36 = .ok (.bastore, 1) := by decide +kernel
theorem d_Choice_chooseContainers_37 : decode b_Choice_chooseContainers 37 = .ok (.iinc 1 (-1), 3) := by decide +kernel
theorem d_Choice_chooseContainers_40 : decode b_Choice_chooseContainers 40 = .ok (.goto (-30), 3) := by decide +kernel
theorem d_Choice_chooseContainers_43 : decode b_Choice_chooseContainers 43 = .ok (.return_, 1) := by decide +kernel
theorem d_Choice_suits_0 : decode b_Choice_suits 0 = .ok (.iload_n 1, 1) := by decide +kernel
theorem d_Choice_suits_1 : decode b_Choice_suits 1 = .ok (.ifCond .eq 9, 3) := by decide +kernel
theorem d_Choice_suits_4 : decode b_Choice_suits 4 = .ok (.iload_n 0, 1) := by decide +kernel
theorem d_Choice_suits_5 : decode b_Choice_suits 5 = .ok (.iload_n 1, 1) := by decide +kernel
theorem d_Choice_suits_6 : decode b_Choice_suits 6 = .ok (.iand, 1) := by decide +kernel
theorem d_Choice_suits_7 : decode b_Choice_suits 7 = .ok (.ifCond .eq 13, 3) := by decide +kernel
theorem d_Choice_suits_10 : decode b_Choice_suits 10 = .ok (.iload_n 0, 1) := by decide +kernel
theorem d_Choice_suits_11 : decode b_Choice_suits 11 = .ok (.iload_n 2, 1) := by decide +kernel
theorem d_Choice_suits_12 : decode b_Choice_suits 12 = .ok (.iand, 1) := by decide +kernel
theorem d_Choice_suits_13 : decode b_Choice_suits 13 = .ok (.ifCond .ne 7, 3) := by decide +kernel
theorem d_Choice_suits_16 : decode b_Choice_suits 16 = .ok (.iconst 1, 1) := by decide +kernel
theorem d_Choice_suits_17 : decode b_Choice_suits 17 = .ok (.goto 4, 3) := by decide +kernel
theorem d_Choice_suits_20 : decode b_Choice_suits 20 = .ok (.iconst 0, 1) := by decide +kernel
theorem d_Choice_suits_21 : decode b_Choice_suits 21 = .ok (.ireturn, 1) := by decide +kernel
theorem d_Choice_isChosen_0 : decode b_Choice_isChosen 0 = .ok (.aload_n 0, 1) := by decide +kernel
theorem d_Choice_isChosen_1 : decode b_Choice_isChosen 1 = .ok (.getfield 19, 3) := by decide +kernel
theorem d_Choice_isChosen_4 : decode b_Choice_isChosen 4 = .ok (.iload_n 1, 1) := by decide +kernel
theorem d_Choice_isChosen_5 : decode b_Choice_isChosen 5 = .ok (.baload, 1) := by decide +kernel
theorem d_Choice_isChosen_6 : decode b_Choice_isChosen 6 = .ok (.ireturn, 1) := by decide +kernel
theorem d_Choice_chosenTests_0 : decode b_Choice_chosenTests 0 = .ok (.aload_n 0, 1) := by decide +kernel
theorem d_Choice_chosenTests_1 : decode b_Choice_chosenTests 1 = .ok (.getfield 26, 3) := by decide +kernel
theorem d_Choice_chosenTests_4 : decode b_Choice_chosenTests 4 = .ok (.ireturn, 1) := by decide +kernel
theorem d_Journal_init_0 : decode b_Journal_init 0 = .ok (.aload_n 0, 1) := by decide +kernel
theorem d_Journal_init_1 : decode b_Journal_init 1 = .ok (.invokespecial 3, 3) := by decide +kernel
theorem d_Journal_init_4 : decode b_Journal_init 4 = .ok (.aload_n 0, 1) := by decide +kernel
theorem d_Journal_init_5 : decode b_Journal_init 5 = .ok (.sipush 1200, 3) := by decide +kernel
theorem d_Journal_init_8 : decode b_Journal_init 8 = .ok (.newarray .int, 2) := by decide +kernel
theorem d_Journal_init_10 : decode b_Journal_init 10 = .ok (.putfield 9, 3) := by decide +kernel
theorem d_Journal_init_13 : decode b_Journal_init 13 = .ok (.aload_n 0, 1) := by decide +kernel
theorem d_Journal_init_14 : decode b_Journal_init 14 = .ok (.sipush 600, 3) := by decide +kernel
theorem d_Journal_init_17 : decode b_Journal_init 17 = .ok (.newarray .int, 2) := by decide +kernel
theorem d_Journal_init_19 : decode b_Journal_init 19 = .ok (.putfield 15, 3) := by decide +kernel
theorem d_Journal_init_22 : decode b_Journal_init 22 = .ok (.aload_n 0, 1) := by decide +kernel
theorem d_Journal_init_23 : decode b_Journal_init 23 = .ok (.iconst 3, 1) := by decide +kernel
theorem d_Journal_init_24 : decode b_Journal_init 24 = .ok (.newarray .int, 2) := by decide +kernel
theorem d_Journal_init_26 : decode b_Journal_init 26 = .ok (.putfield 18, 3) := by decide +kernel
theorem d_Journal_init_29 : decode b_Journal_init 29 = .ok (.return_, 1) := by decide +kernel
theorem d_Journal_clear_0 : decode b_Journal_clear 0 = .ok (.aload_n 0, 1) := by decide +kernel
theorem d_Journal_clear_1 : decode b_Journal_clear 1 = .ok (.iconst 0, 1) := by decide +kernel
theorem d_Journal_clear_2 : decode b_Journal_clear 2 = .ok (.putfield 21, 3) := by decide +kernel
theorem d_Journal_clear_5 : decode b_Journal_clear 5 = .ok (.aload_n 0, 1) := by decide +kernel
theorem d_Journal_clear_6 : decode b_Journal_clear 6 = .ok (.iconst 0, 1) := by decide +kernel
theorem d_Journal_clear_7 : decode b_Journal_clear 7 = .ok (.putfield 25, 3) := by decide +kernel
theorem d_Journal_clear_10 : decode b_Journal_clear 10 = .ok (.aload_n 0, 1) := by decide +kernel
theorem d_Journal_clear_11 : decode b_Journal_clear 11 = .ok (.iconst 0, 1) := by decide +kernel
theorem d_Journal_clear_12 : decode b_Journal_clear 12 = .ok (.putfield 28, 3) := by decide +kernel
theorem d_Journal_clear_15 : decode b_Journal_clear 15 = .ok (.aload_n 0, 1) := by decide +kernel
theorem d_Journal_clear_16 : decode b_Journal_clear 16 = .ok (.iconst 0, 1) := by decide +kernel
theorem d_Journal_clear_17 : decode b_Journal_clear 17 = .ok (.putfield 31, 3) := by decide +kernel
theorem d_Journal_clear_20 : decode b_Journal_clear 20 = .ok (.iconst 0, 1) := by decide +kernel
theorem d_Journal_clear_21 : decode b_Journal_clear 21 = .ok (.istore_n 1, 1) := by decide +kernel
theorem d_Journal_clear_22 : decode b_Journal_clear 22 = .ok (.iload_n 1, 1) := by decide +kernel
theorem d_Journal_clear_23 : decode b_Journal_clear 23 = .ok (.iconst 3, 1) := by decide +kernel
theorem d_Journal_clear_24 : decode b_Journal_clear 24 = .ok (.if_icmp .ge 16, 3) := by decide +kernel
theorem d_Journal_clear_27 : decode b_Journal_clear 27 = .ok (.aload_n 0, 1) := by decide +kernel
theorem d_Journal_clear_28 : decode b_Journal_clear 28 = .ok (.getfield 18, 3) := by decide +kernel
theorem d_Journal_clear_31 : decode b_Journal_clear 31 = .ok (.iload_n 1, 1) := by decide +kernel
theorem d_Journal_clear_32 : decode b_Journal_clear 32 = .ok (.iconst 0, 1) := by decide +kernel
theorem d_Journal_clear_33 : decode b_Journal_clear 33 = .ok (.iastore, 1) := by decide +kernel
theorem d_Journal_clear_34 : decode b_Journal_clear 34 = .ok (.iinc 1 1, 3) := by decide +kernel
theorem d_Journal_clear_37 : decode b_Journal_clear 37 = .ok (.goto (-15), 3) := by decide +kernel
theorem d_Journal_clear_40 : decode b_Journal_clear 40 = .ok (.return_, 1) := by decide +kernel
theorem d_Journal_writeStarted_0 : decode b_Journal_writeStarted 0 = .ok (.aload_n 0, 1) := by decide +kernel
theorem d_Journal_writeStarted_1 : decode b_Journal_writeStarted 1 = .ok (.iconst 1, 1) := by decide +kernel
theorem d_Journal_writeStarted_2 : decode b_Journal_writeStarted 2 = .ok (.iload_n 1, 1) := by decide +kernel
theorem d_Journal_writeStarted_3 : decode b_Journal_writeStarted 3 = .ok (.iload_n 2, 1) := by decide +kernel
theorem d_Journal_writeStarted_4 : decode b_Journal_writeStarted 4 = .ok (.iload_n 3, 1) := by decide +kernel
theorem d_Journal_writeStarted_5 : decode b_Journal_writeStarted 5 = .ok (.invokevirtual 35, 3) := by decide +kernel
theorem d_Journal_writeStarted_8 : decode b_Journal_writeStarted 8 = .ok (.return_, 1) := by decide +kernel
theorem d_Journal_writeSkipped_0 : decode b_Journal_writeSkipped 0 = .ok (.aload_n 0, 1) := by decide +kernel
theorem d_Journal_writeSkipped_1 : decode b_Journal_writeSkipped 1 = .ok (.dup, 1) := by decide +kernel
theorem d_Journal_writeSkipped_2 : decode b_Journal_writeSkipped 2 = .ok (.getfield 25, 3) := by decide +kernel
theorem d_Journal_writeSkipped_5 : decode b_Journal_writeSkipped 5 = .ok (.iconst 1, 1) := by decide +kernel
theorem d_Journal_writeSkipped_6 : decode b_Journal_writeSkipped 6 = .ok (.iadd, 1) := by decide +kernel
theorem d_Journal_writeSkipped_7 : decode b_Journal_writeSkipped 7 = .ok (.putfield 25, 3) := by decide +kernel
theorem d_Journal_writeSkipped_10 : decode b_Journal_writeSkipped 10 = .ok (.aload_n 0, 1) := by decide +kernel
theorem d_Journal_writeSkipped_11 : decode b_Journal_writeSkipped 11 = .ok (.iconst 3, 1) := by decide +kernel
theorem d_Journal_writeSkipped_12 : decode b_Journal_writeSkipped 12 = .ok (.iload_n 1, 1) := by decide +kernel
theorem d_Journal_writeSkipped_13 : decode b_Journal_writeSkipped 13 = .ok (.iload_n 2, 1) := by decide +kernel
theorem d_Journal_writeSkipped_14 : decode b_Journal_writeSkipped 14 = .ok (.iload_n 3, 1) := by decide +kernel
theorem d_Journal_writeSkipped_15 : decode b_Journal_writeSkipped 15 = .ok (.invokevirtual 35, 3) := by decide +kernel
theorem d_Journal_writeSkipped_18 : decode b_Journal_writeSkipped 18 = .ok (.return_, 1) := by decide +kernel
theorem d_Journal_writeContainerFinished_0 : decode b_Journal_writeContainerFinished 0 = .ok (.aload_n 3, 1) := by decide +kernel
theorem d_Journal_writeContainerFinished_1 : decode b_Journal_writeContainerFinished 1 = .ok (.invokevirtual 39, 3) := by decide +kernel
theorem d_Journal_writeContainerFinished_4 : decode b_Journal_writeContainerFinished 4 = .ok (.ifCond .ne 13, 3) := by decide +kernel
theorem d_Journal_writeContainerFinished_7 : decode b_Journal_writeContainerFinished 7 = .ok (.aload_n 0, 1) := by decide +kernel
theorem d_Journal_writeContainerFinished_8 : decode b_Journal_writeContainerFinished 8 = .ok (.dup, 1) := by decide +kernel
theorem d_Journal_writeContainerFinished_9 : decode b_Journal_writeContainerFinished 9 = .ok (.getfield 28, 3) := by decide +kernel
theorem d_Journal_writeContainerFinished_12 : decode b_Journal_writeContainerFinished 12 = .ok (.iconst 1, 1) := by decide +kernel
theorem d_Journal_writeContainerFinished_13 : decode b_Journal_writeContainerFinished 13 = .ok (.iadd, 1) := by decide +kernel
theorem d_Journal_writeContainerFinished_14 : decode b_Journal_writeContainerFinished 14 = .ok (.putfield 28, 3) := by decide +kernel
theorem d_Journal_writeContainerFinished_17 : decode b_Journal_writeContainerFinished 17 = .ok (.aload_n 0, 1) := by decide +kernel
theorem d_Journal_writeContainerFinished_18 : decode b_Journal_writeContainerFinished 18 = .ok (.iconst 2, 1) := by decide +kernel
theorem d_Journal_writeContainerFinished_19 : decode b_Journal_writeContainerFinished 19 = .ok (.iload_n 1, 1) := by decide +kernel
theorem d_Journal_writeContainerFinished_20 : decode b_Journal_writeContainerFinished 20 = .ok (.iconst 0, 1) := by decide +kernel
theorem d_Journal_writeContainerFinished_21 : decode b_Journal_writeContainerFinished 21 = .ok (.iload_n 2, 1) := by decide +kernel
theorem d_Journal_writeContainerFinished_22 : decode b_Journal_writeContainerFinished 22 = .ok (.invokevirtual 35, 3) := by decide +kernel
theorem d_Journal_writeContainerFinished_25 : decode b_Journal_writeContainerFinished 25 = .ok (.aload_n 0, 1) := by decide +kernel
theorem d_Journal_writeContainerFinished_26 : decode b_Journal_writeContainerFinished 26 = .ok (.aload_n 3, 1) := by decide +kernel
theorem d_Journal_writeContainerFinished_27 : decode b_Journal_writeContainerFinished 27 = .ok (.iload 4, 2) := by decide +kernel
theorem d_Journal_writeContainerFinished_29 : decode b_Journal_writeContainerFinished 29 = .ok (.invokevirtual 45, 3) := by decide +kernel
theorem d_Journal_writeContainerFinished_32 : decode b_Journal_writeContainerFinished 32 = .ok (.return_, 1) := by decide +kernel
theorem d_Journal_writeRoundFinished_0 : decode b_Journal_writeRoundFinished 0 = .ok (.aload_n 0, 1) := by decide +kernel
theorem d_Journal_writeRoundFinished_1 : decode b_Journal_writeRoundFinished 1 = .ok (.getfield 18, 3) := by decide +kernel
theorem d_Journal_writeRoundFinished_4 : decode b_Journal_writeRoundFinished 4 = .ok (.aload 4, 2) := by decide +kernel
theorem d_Journal_writeRoundFinished_6 : decode b_Journal_writeRoundFinished 6 = .ok (.invokevirtual 49, 3) := by decide +kernel
theorem d_Journal_writeRoundFinished_9 : decode b_Journal_writeRoundFinished 9 = .ok (.dup2, 1) := by decide +kernel
theorem d_Journal_writeRoundFinished_10 : decode b_Journal_writeRoundFinished 10 = .ok (.iaload, 1) := by decide +kernel
theorem d_Journal_writeRoundFinished_11 : decode b_Journal_writeRoundFinished 11 = .ok (.iconst 1, 1) := by decide +kernel
theorem d_Journal_writeRoundFinished_12 : decode b_Journal_writeRoundFinished 12 = .ok (.iadd, 1) := by decide +kernel
theorem d_Journal_writeRoundFinished_13 : decode b_Journal_writeRoundFinished 13 = .ok (.iastore, 1) := by decide +kernel
theorem d_Journal_writeRoundFinished_14 : decode b_Journal_writeRoundFinished 14 = .ok (.aload_n 0, 1) := by decide +kernel
theorem d_Journal_writeRoundFinished_15 : decode b_Journal_writeRoundFinished 15 = .ok (.iconst 2, 1) := by decide +kernel
theorem d_Journal_writeRoundFinished_16 : decode b_Journal_writeRoundFinished 16 = .ok (.iload_n 1, 1) := by decide +kernel
theorem d_Journal_writeRoundFinished_17 : decode b_Journal_writeRoundFinished 17 = .ok (.iload_n 2, 1) := by decide +kernel
theorem d_Journal_writeRoundFinished_18 : decode b_Journal_writeRoundFinished 18 = .ok (.iload_n 3, 1) := by decide +kernel
theorem d_Journal_writeRoundFinished_19 : decode b_Journal_writeRoundFinished 19 = .ok (.invokevirtual 35, 3) := by decide +kernel
theorem d_Journal_writeRoundFinished_22 : decode b_Journal_writeRoundFinished 22 = .ok (.aload_n 0, 1) := by decide +kernel
theorem d_Journal_writeRoundFinished_23 : decode b_Journal_writeRoundFinished 23 = .ok (.aload 4, 2) := by decide +kernel
theorem d_Journal_writeRoundFinished_25 : decode b_Journal_writeRoundFinished 25 = .ok (.iload 5, 2) := by decide +kernel
theorem d_Journal_writeRoundFinished_27 : decode b_Journal_writeRoundFinished 27 = .ok (.invokevirtual 45, 3) := by decide +kernel
theorem d_Journal_writeRoundFinished_30 : decode b_Journal_writeRoundFinished 30 = .ok (.return_, 1) := by decide +kernel
theorem d_Journal_writeEvent_0 : decode b_Journal_writeEvent 0 = .ok (.aload_n 0, 1) := by decide +kernel
theorem d_Journal_writeEvent_1 : decode b_Journal_writeEvent 1 = .ok (.getfield 21, 3) := by decide +kernel
theorem d_Journal_writeEvent_4 : decode b_Journal_writeEvent 4 = .ok (.sipush 150, 3) := by decide +kernel
theorem d_Journal_writeEvent_7 : decode b_Journal_writeEvent 7 = .ok (.if_icmp .ge 112, 3) := by decide +kernel
theorem d_Journal_writeEvent_10 : decode b_Journal_writeEvent 10 = .ok (.aload_n 0, 1) := by decide +kernel
theorem d_Journal_writeEvent_11 : decode b_Journal_writeEvent 11 = .ok (.getfield 21, 3) := by decide +kernel
theorem d_Journal_writeEvent_14 : decode b_Journal_writeEvent 14 = .ok (.bipush 8, 2) := by decide +kernel
theorem d_Journal_writeEvent_16 : decode b_Journal_writeEvent 16 = .ok (.imul, 1) := by decide +kernel
theorem d_Journal_writeEvent_17 : decode b_Journal_writeEvent 17 = .ok (.istore 5, 2) := by decide +kernel
theorem d_Journal_writeEvent_19 : decode b_Journal_writeEvent 19 = .ok (.aload_n 0, 1) := by decide +kernel
theorem d_Journal_writeEvent_20 : decode b_Journal_writeEvent 20 = .ok (.getfield 9, 3) := by decide +kernel
theorem d_Journal_writeEvent_23 : decode b_Journal_writeEvent 23 = .ok (.iload 5, 2) := by decide +kernel
theorem d_Journal_writeEvent_25 : decode b_Journal_writeEvent 25 = .ok (.iconst 0, 1) := by decide +kernel
theorem d_Journal_writeEvent_26 : decode b_Journal_writeEvent 26 = .ok (.iadd, 1) := by decide +kernel
theorem d_Journal_writeEvent_27 : decode b_Journal_writeEvent 27 = .ok (.iload_n 1, 1) := by decide +kernel
theorem d_Journal_writeEvent_28 : decode b_Journal_writeEvent 28 = .ok (.iastore, 1) := by decide +kernel
theorem d_Journal_writeEvent_29 : decode b_Journal_writeEvent 29 = .ok (.aload_n 0, 1) := by decide +kernel
theorem d_Journal_writeEvent_30 : decode b_Journal_writeEvent 30 = .ok (.getfield 9, 3) := by decide +kernel
theorem d_Journal_writeEvent_33 : decode b_Journal_writeEvent 33 = .ok (.iload 5, 2) := by decide +kernel
theorem d_Journal_writeEvent_35 : decode b_Journal_writeEvent 35 = .ok (.iconst 1, 1) := by decide +kernel
theorem d_Journal_writeEvent_36 : decode b_Journal_writeEvent 36 = .ok (.iadd, 1) := by decide +kernel
theorem d_Journal_writeEvent_37 : decode b_Journal_writeEvent 37 = .ok (.iload_n 2, 1) := by decide +kernel
theorem d_Journal_writeEvent_38 : decode b_Journal_writeEvent 38 = .ok (.iastore, 1) := by decide +kernel
theorem d_Journal_writeEvent_39 : decode b_Journal_writeEvent 39 = .ok (.aload_n 0, 1) := by decide +kernel
theorem d_Journal_writeEvent_40 : decode b_Journal_writeEvent 40 = .ok (.getfield 9, 3) := by decide +kernel
theorem d_Journal_writeEvent_43 : decode b_Journal_writeEvent 43 = .ok (.iload 5, 2) := by decide +kernel
theorem d_Journal_writeEvent_45 : decode b_Journal_writeEvent 45 = .ok (.iconst 2, 1) := by decide +kernel
theorem d_Journal_writeEvent_46 : decode b_Journal_writeEvent 46 = .ok (.iadd, 1) := by decide +kernel
theorem d_Journal_writeEvent_47 : decode b_Journal_writeEvent 47 = .ok (.iload_n 3, 1) := by decide +kernel
theorem d_Journal_writeEvent_48 : decode b_Journal_writeEvent 48 = .ok (.iastore, 1) := by decide +kernel
theorem d_Journal_writeEvent_49 : decode b_Journal_writeEvent 49 = .ok (.aload_n 0, 1) := by decide +kernel
theorem d_Journal_writeEvent_50 : decode b_Journal_writeEvent 50 = .ok (.getfield 9, 3) := by decide +kernel
theorem d_Journal_writeEvent_53 : decode b_Journal_writeEvent 53 = .ok (.iload 5, 2) := by decide +kernel
theorem d_Journal_writeEvent_55 : decode b_Journal_writeEvent 55 = .ok (.iconst 3, 1) := by decide +kernel
theorem d_Journal_writeEvent_56 : decode b_Journal_writeEvent 56 = .ok (.iadd, 1) := by decide +kernel
theorem d_Journal_writeEvent_57 : decode b_Journal_writeEvent 57 = .ok (.iload 4, 2) := by decide +kernel
theorem d_Journal_writeEvent_59 : decode b_Journal_writeEvent 59 = .ok (.iastore, 1) := by decide +kernel
theorem d_Journal_writeEvent_60 : decode b_Journal_writeEvent 60 = .ok (.iconst 4, 1) := by decide +kernel
theorem d_Journal_writeEvent_61 : decode b_Journal_writeEvent 61 = .ok (.istore 6, 2) := by decide +kernel
theorem d_Journal_writeEvent_63 : decode b_Journal_writeEvent 63 = .ok (.iload 6, 2) := by decide +kernel
theorem d_Journal_writeEvent_65 : decode b_Journal_writeEvent 65 = .ok (.bipush 8, 2) := by decide +kernel
theorem d_Journal_writeEvent_67 : decode b_Journal_writeEvent 67 = .ok (.if_icmp .ge 20, 3) := by decide +kernel
theorem d_Journal_writeEvent_70 : decode b_Journal_writeEvent 70 = .ok (.aload_n 0, 1) := by decide +kernel
theorem d_Journal_writeEvent_71 : decode b_Journal_writeEvent 71 = .ok (.getfield 9, 3) := by decide +kernel
theorem d_Journal_writeEvent_74 : decode b_Journal_writeEvent 74 = .ok (.iload 5, 2) := by decide +kernel
theorem d_Journal_writeEvent_76 : decode b_Journal_writeEvent 76 = .ok (.iload 6, 2) := by decide +kernel
theorem d_Journal_writeEvent_78 : decode b_Journal_writeEvent 78 = .ok (.iadd, 1) := by decide +kernel
theorem d_Journal_writeEvent_79 : decode b_Journal_writeEvent 79 = .ok (.iconst 0, 1) := by decide +kernel
theorem d_Journal_writeEvent_80 : decode b_Journal_writeEvent 80 = .ok (.iastore, 1) := by decide +kernel
theorem d_Journal_writeEvent_81 : decode b_Journal_writeEvent 81 = .ok (.iinc 6 1, 3) := by decide +kernel
theorem d_Journal_writeEvent_84 : decode b_Journal_writeEvent 84 = .ok (.goto (-21), 3) := by decide +kernel
theorem d_Journal_writeEvent_87 : decode b_Journal_writeEvent 87 = .ok (.iconst 0, 1) := by decide +kernel
theorem d_Journal_writeEvent_88 : decode b_Journal_writeEvent 88 = .ok (.istore 6, 2) := by decide +kernel
theorem d_Journal_writeEvent_90 : decode b_Journal_writeEvent 90 = .ok (.iload 6, 2) := by decide +kernel
theorem d_Journal_writeEvent_92 : decode b_Journal_writeEvent 92 = .ok (.iconst 4, 1) := by decide +kernel
theorem d_Journal_writeEvent_93 : decode b_Journal_writeEvent 93 = .ok (.if_icmp .ge 26, 3) := by decide +kernel
theorem d_Journal_writeEvent_96 : decode b_Journal_writeEvent 96 = .ok (.aload_n 0, 1) := by decide +kernel
theorem d_Journal_writeEvent_97 : decode b_Journal_writeEvent 97 = .ok (.getfield 15, 3) := by decide +kernel
theorem d_Journal_writeEvent_100 : decode b_Journal_writeEvent 100 = .ok (.aload_n 0, 1) := by decide +kernel
theorem d_Journal_writeEvent_101 : decode b_Journal_writeEvent 101 = .ok (.getfield 21, 3) := by decide +kernel
theorem d_Journal_writeEvent_104 : decode b_Journal_writeEvent 104 = .ok (.iconst 4, 1) := by decide +kernel
theorem d_Journal_writeEvent_105 : decode b_Journal_writeEvent 105 = .ok (.imul, 1) := by decide +kernel
theorem d_Journal_writeEvent_106 : decode b_Journal_writeEvent 106 = .ok (.iload 6, 2) := by decide +kernel
theorem d_Journal_writeEvent_108 : decode b_Journal_writeEvent 108 = .ok (.iadd, 1) := by decide +kernel
theorem d_Journal_writeEvent_109 : decode b_Journal_writeEvent 109 = .ok (.sipush (-1000), 3) := by decide +kernel
theorem d_Journal_writeEvent_112 : decode b_Journal_writeEvent 112 = .ok (.iastore, 1) := by decide +kernel
theorem d_Journal_writeEvent_113 : decode b_Journal_writeEvent 113 = .ok (.iinc 6 1, 3) := by decide +kernel
theorem d_Journal_writeEvent_116 : decode b_Journal_writeEvent 116 = .ok (.goto (-26), 3) := by decide +kernel
theorem d_Journal_writeEvent_119 : decode b_Journal_writeEvent 119 = .ok (.aload_n 0, 1) := by decide +kernel
theorem d_Journal_writeEvent_120 : decode b_Journal_writeEvent 120 = .ok (.dup, 1) := by decide +kernel
theorem d_Journal_writeEvent_121 : decode b_Journal_writeEvent 121 = .ok (.getfield 21, 3) := by decide +kernel
theorem d_Journal_writeEvent_124 : decode b_Journal_writeEvent 124 = .ok (.iconst 1, 1) := by decide +kernel
theorem d_Journal_writeEvent_125 : decode b_Journal_writeEvent 125 = .ok (.iadd, 1) := by decide +kernel
theorem d_Journal_writeEvent_126 : decode b_Journal_writeEvent 126 = .ok (.putfield 21, 3) := by decide +kernel
theorem d_Journal_writeEvent_129 : decode b_Journal_writeEvent 129 = .ok (.return_, 1) := by decide +kernel
theorem d_Journal_writeOutcome_0 : decode b_Journal_writeOutcome 0 = .ok (.aload_n 1, 1) := by decide +kernel
theorem d_Journal_writeOutcome_1 : decode b_Journal_writeOutcome 1 = .ok (.invokevirtual 49, 3) := by decide +kernel
theorem d_Journal_writeOutcome_4 : decode b_Journal_writeOutcome 4 = .ok (.iconst 1, 1) := by decide +kernel
theorem d_Journal_writeOutcome_5 : decode b_Journal_writeOutcome 5 = .ok (.if_icmp .ne 8, 3) := by decide +kernel
theorem d_Journal_writeOutcome_8 : decode b_Journal_writeOutcome 8 = .ok (.aload_n 0, 1) := by decide +kernel
theorem d_Journal_writeOutcome_9 : decode b_Journal_writeOutcome 9 = .ok (.iconst 1, 1) := by decide +kernel
theorem d_Journal_writeOutcome_10 : decode b_Journal_writeOutcome 10 = .ok (.putfield 31, 3) := by decide +kernel
theorem d_Journal_writeOutcome_13 : decode b_Journal_writeOutcome 13 = .ok (.aload_n 0, 1) := by decide +kernel
theorem d_Journal_writeOutcome_14 : decode b_Journal_writeOutcome 14 = .ok (.getfield 21, 3) := by decide +kernel
theorem d_Journal_writeOutcome_17 : decode b_Journal_writeOutcome 17 = .ok (.iconst 1, 1) := by decide +kernel
theorem d_Journal_writeOutcome_18 : decode b_Journal_writeOutcome 18 = .ok (.isub, 1) := by decide +kernel
theorem d_Journal_writeOutcome_19 : decode b_Journal_writeOutcome 19 = .ok (.istore_n 3, 1) := by decide +kernel
theorem d_Journal_writeOutcome_20 : decode b_Journal_writeOutcome 20 = .ok (.iload_n 3, 1) := by decide +kernel
theorem d_Journal_writeOutcome_21 : decode b_Journal_writeOutcome 21 = .ok (.iconst 0, 1) := by decide +kernel
theorem d_Journal_writeOutcome_22 : decode b_Journal_writeOutcome 22 = .ok (.sipush 149, 3) := by decide +kernel
theorem d_Journal_writeOutcome_25 : decode b_Journal_writeOutcome 25 = .ok (.invokestatic 53, 3) := by decide +kernel
theorem d_Journal_writeOutcome_28 : decode b_Journal_writeOutcome 28 = .ok (.ifCond .ne 4, 3) := by decide +kernel
theorem d_Journal_writeOutcome_31 : decode b_Journal_writeOutcome 31 = .ok (.return_, 1) := by decide +kernel
theorem d_Journal_writeOutcome_32 : decode b_Journal_writeOutcome 32 = .ok (.iload_n 3, 1) := by decide +kernel
theorem d_Journal_writeOutcome_33 : decode b_Journal_writeOutcome 33 = .ok (.bipush 8, 2) := by decide +kernel
theorem d_Journal_writeOutcome_35 : decode b_Journal_writeOutcome 35 = .ok (.imul, 1) := by decide +kernel
theorem d_Journal_writeOutcome_36 : decode b_Journal_writeOutcome 36 = .ok (.istore 4, 2) := by decide +kernel
theorem d_Journal_writeOutcome_38 : decode b_Journal_writeOutcome 38 = .ok (.aload_n 0, 1) := by decide +kernel
theorem d_Journal_writeOutcome_39 : decode b_Journal_writeOutcome 39 = .ok (.getfield 9, 3) := by decide +kernel
theorem d_Journal_writeOutcome_42 : decode b_Journal_writeOutcome 42 = .ok (.iload 4, 2) := by decide +kernel
theorem d_Journal_writeOutcome_44 : decode b_Journal_writeOutcome 44 = .ok (.iconst 4, 1) := by decide +kernel
theorem d_Journal_writeOutcome_45 : decode b_Journal_writeOutcome 45 = .ok (.iadd, 1) := by decide +kernel
theorem d_Journal_writeOutcome_46 : decode b_Journal_writeOutcome 46 = .ok (.aload_n 1, 1) := by decide +kernel
theorem d_Journal_writeOutcome_47 : decode b_Journal_writeOutcome 47 = .ok (.invokevirtual 49, 3) := by decide +kernel
theorem d_Journal_writeOutcome_50 : decode b_Journal_writeOutcome 50 = .ok (.iastore, 1) := by decide +kernel
theorem d_Journal_writeOutcome_51 : decode b_Journal_writeOutcome 51 = .ok (.aload_n 0, 1) := by decide +kernel
theorem d_Journal_writeOutcome_52 : decode b_Journal_writeOutcome 52 = .ok (.getfield 9, 3) := by decide +kernel
theorem d_Journal_writeOutcome_55 : decode b_Journal_writeOutcome 55 = .ok (.iload 4, 2) := by decide +kernel
theorem d_Journal_writeOutcome_57 : decode b_Journal_writeOutcome 57 = .ok (.iconst 5, 1) := by decide +kernel
theorem d_Journal_writeOutcome_58 : decode b_Journal_writeOutcome 58 = .ok (.iadd, 1) := by decide +kernel
theorem d_Journal_writeOutcome_59 : decode b_Journal_writeOutcome 59 = .ok (.aload_n 1, 1) := by decide +kernel
theorem d_Journal_writeOutcome_60 : decode b_Journal_writeOutcome 60 = .ok (.invokevirtual 57, 3) := by decide +kernel
theorem d_Journal_writeOutcome_63 : decode b_Journal_writeOutcome 63 = .ok (.iastore, 1) := by decide +kernel
theorem d_Journal_writeOutcome_64 : decode b_Journal_writeOutcome 64 = .ok (.aload_n 0, 1) := by decide +kernel
theorem d_Journal_writeOutcome_65 : decode b_Journal_writeOutcome 65 = .ok (.getfield 9, 3) := by decide +kernel
theorem d_Journal_writeOutcome_68 : decode b_Journal_writeOutcome 68 = .ok (.iload 4, 2) := by decide +kernel
theorem d_Journal_writeOutcome_70 : decode b_Journal_writeOutcome 70 = .ok (.bipush 6, 2) := by decide +kernel
theorem d_Journal_writeOutcome_72 : decode b_Journal_writeOutcome 72 = .ok (.iadd, 1) := by decide +kernel
theorem d_Journal_writeOutcome_73 : decode b_Journal_writeOutcome 73 = .ok (.aload_n 1, 1) := by decide +kernel
theorem d_Journal_writeOutcome_74 : decode b_Journal_writeOutcome 74 = .ok (.invokevirtual 60, 3) := by decide +kernel
theorem d_Journal_writeOutcome_77 : decode b_Journal_writeOutcome 77 = .ok (.iastore, 1) := by decide +kernel
theorem d_Journal_writeOutcome_78 : decode b_Journal_writeOutcome 78 = .ok (.aload_n 0, 1) := by decide +kernel
theorem d_Journal_writeOutcome_79 : decode b_Journal_writeOutcome 79 = .ok (.getfield 9, 3) := by decide +kernel
theorem d_Journal_writeOutcome_82 : decode b_Journal_writeOutcome 82 = .ok (.iload 4, 2) := by decide +kernel
theorem d_Journal_writeOutcome_84 : decode b_Journal_writeOutcome 84 = .ok (.bipush 7, 2) := by decide +kernel
theorem d_Journal_writeOutcome_86 : decode b_Journal_writeOutcome 86 = .ok (.iadd, 1) := by decide +kernel
theorem d_Journal_writeOutcome_87 : decode b_Journal_writeOutcome 87 = .ok (.iload_n 2, 1) := by decide +kernel
theorem d_Journal_writeOutcome_88 : decode b_Journal_writeOutcome 88 = .ok (.iastore, 1) := by decide +kernel
theorem d_Journal_writeOutcome_89 : decode b_Journal_writeOutcome 89 = .ok (.iconst 0, 1) := by decide +kernel
theorem d_Journal_writeOutcome_90 : decode b_Journal_writeOutcome 90 = .ok (.istore 5, 2) := by decide +kernel
theorem d_Journal_writeOutcome_92 : decode b_Journal_writeOutcome 92 = .ok (.iload 5, 2) := by decide +kernel
theorem d_Journal_writeOutcome_94 : decode b_Journal_writeOutcome 94 = .ok (.iconst 4, 1) := by decide +kernel
theorem d_Journal_writeOutcome_95 : decode b_Journal_writeOutcome 95 = .ok (.if_icmp .ge 26, 3) := by decide +kernel
theorem d_Journal_writeOutcome_98 : decode b_Journal_writeOutcome 98 = .ok (.aload_n 0, 1) := by decide +kernel
theorem d_Journal_writeOutcome_99 : decode b_Journal_writeOutcome 99 = .ok (.getfield 15, 3) := by decide +kernel
theorem d_Journal_writeOutcome_102 : decode b_Journal_writeOutcome 102 = .ok (.iload_n 3, 1) := by decide +kernel
theorem d_Journal_writeOutcome_103 : decode b_Journal_writeOutcome 103 = .ok (.iconst 4, 1) := by decide +kernel
theorem d_Journal_writeOutcome_104 : decode b_Journal_writeOutcome 104 = .ok (.imul, 1) := by decide +kernel
theorem d_Journal_writeOutcome_105 : decode b_Journal_writeOutcome 105 = .ok (.iload 5, 2) := by decide +kernel
theorem d_Journal_writeOutcome_107 : decode b_Journal_writeOutcome 107 = .ok (.iadd, 1) := by decide +kernel
theorem d_Journal_writeOutcome_108 : decode b_Journal_writeOutcome 108 = .ok (.aload_n 1, 1) := by decide +kernel
theorem d_Journal_writeOutcome_109 : decode b_Journal_writeOutcome 109 = .ok (.iload 5, 2) := by decide +kernel
theorem d_Journal_writeOutcome_111 : decode b_Journal_writeOutcome 111 = .ok (.invokevirtual 63, 3) := by decide +kernel
theorem d_Journal_writeOutcome_114 : decode b_Journal_writeOutcome 114 = .ok (.iastore, 1) := by decide +kernel
theorem d_Journal_writeOutcome_115 : decode b_Journal_writeOutcome 115 = .ok (.iinc 5 1, 3) := by decide +kernel
theorem d_Journal_writeOutcome_118 : decode b_Journal_writeOutcome 118 = .ok (.goto (-26), 3) := by decide +kernel
theorem d_Journal_writeOutcome_121 : decode b_Journal_writeOutcome 121 = .ok (.return_, 1) := by decide +kernel
theorem d_Journal_isKept_0 : decode b_Journal_isKept 0 = .ok (.iload_n 1, 1) := by decide +kernel
theorem d_Journal_isKept_1 : decode b_Journal_isKept 1 = .ok (.iconst 0, 1) := by decide +kernel
theorem d_Journal_isKept_2 : decode b_Journal_isKept 2 = .ok (.aload_n 0, 1) := by decide +kernel
theorem d_Journal_isKept_3 : decode b_Journal_isKept 3 = .ok (.getfield 21, 3) := by decide +kernel
theorem d_Journal_isKept_6 : decode b_Journal_isKept 6 = .ok (.sipush 150, 3) := by decide +kernel
theorem d_Journal_isKept_9 : decode b_Journal_isKept 9 = .ok (.invokestatic 67, 3) := by decide +kernel
theorem d_Journal_isKept_12 : decode b_Journal_isKept 12 = .ok (.iconst 1, 1) := by decide +kernel
theorem d_Journal_isKept_13 : decode b_Journal_isKept 13 = .ok (.isub, 1) := by decide +kernel
theorem d_Journal_isKept_14 : decode b_Journal_isKept 14 = .ok (.invokestatic 53, 3) := by decide +kernel
theorem d_Journal_isKept_17 : decode b_Journal_isKept 17 = .ok (.ireturn, 1) := by decide +kernel
theorem d_Journal_fieldOf_0 : decode b_Journal_fieldOf 0 = .ok (.aload_n 0, 1) := by decide +kernel
theorem d_Journal_fieldOf_1 : decode b_Journal_fieldOf 1 = .ok (.iload_n 1, 1) := by decide +kernel
theorem d_Journal_fieldOf_2 : decode b_Journal_fieldOf 2 = .ok (.invokevirtual 73, 3) := by decide +kernel
theorem d_Journal_fieldOf_5 : decode b_Journal_fieldOf 5 = .ok (.ifCond .eq 13, 3) := by decide +kernel
theorem d_Journal_fieldOf_8 : decode b_Journal_fieldOf 8 = .ok (.iload_n 2, 1) := by decide +kernel
theorem d_Journal_fieldOf_9 : decode b_Journal_fieldOf 9 = .ok (.iconst 0, 1) := by decide +kernel
theorem d_Journal_fieldOf_10 : decode b_Journal_fieldOf 10 = .ok (.bipush 7, 2) := by decide +kernel
theorem d_Journal_fieldOf_12 : decode b_Journal_fieldOf 12 = .ok (.invokestatic 53, 3) := by decide +kernel
theorem d_Journal_fieldOf_15 : decode b_Journal_fieldOf 15 = .ok (.ifCond .ne 7, 3) := by decide +kernel
theorem d_Journal_fieldOf_18 : decode b_Journal_fieldOf 18 = .ok (.sipush (-1000), 3) := by decide +kernel
theorem d_Journal_fieldOf_21 : decode b_Journal_fieldOf 21 = .ok (.ireturn, 1) := by decide +kernel
theorem d_Journal_fieldOf_22 : decode b_Journal_fieldOf 22 = .ok (.aload_n 0, 1) := by decide +kernel
theorem d_Journal_fieldOf_23 : decode b_Journal_fieldOf 23 = .ok (.getfield 9, 3) := by decide +kernel
theorem d_Journal_fieldOf_26 : decode b_Journal_fieldOf 26 = .ok (.iload_n 1, 1) := by decide +kernel
theorem d_Journal_fieldOf_27 : decode b_Journal_fieldOf 27 = .ok (.bipush 8, 2) := by decide +kernel
theorem d_Journal_fieldOf_29 : decode b_Journal_fieldOf 29 = .ok (.imul, 1) := by decide +kernel
theorem d_Journal_fieldOf_30 : decode b_Journal_fieldOf 30 = .ok (.iload_n 2, 1) := by decide +kernel
theorem d_Journal_fieldOf_31 : decode b_Journal_fieldOf 31 = .ok (.iadd, 1) := by decide +kernel
theorem d_Journal_fieldOf_32 : decode b_Journal_fieldOf 32 = .ok (.iaload, 1) := by decide +kernel
theorem d_Journal_fieldOf_33 : decode b_Journal_fieldOf 33 = .ok (.ireturn, 1) := by decide +kernel
theorem d_Journal_codeOf_0 : decode b_Journal_codeOf 0 = .ok (.aload_n 0, 1) := by decide +kernel
theorem d_Journal_codeOf_1 : decode b_Journal_codeOf 1 = .ok (.iload_n 1, 1) := by decide +kernel
theorem d_Journal_codeOf_2 : decode b_Journal_codeOf 2 = .ok (.invokevirtual 73, 3) := by decide +kernel
theorem d_Journal_codeOf_5 : decode b_Journal_codeOf 5 = .ok (.ifCond .eq 12, 3) := by decide +kernel
theorem d_Journal_codeOf_8 : decode b_Journal_codeOf 8 = .ok (.iload_n 2, 1) := by decide +kernel
theorem d_Journal_codeOf_9 : decode b_Journal_codeOf 9 = .ok (.iconst 0, 1) := by decide +kernel
theorem d_Journal_codeOf_10 : decode b_Journal_codeOf 10 = .ok (.iconst 3, 1) := by decide +kernel
theorem d_Journal_codeOf_11 : decode b_Journal_codeOf 11 = .ok (.invokestatic 53, 3) := by decide +kernel
theorem d_Journal_codeOf_14 : decode b_Journal_codeOf 14 = .ok (.ifCond .ne 7, 3) := by decide +kernel
theorem d_Journal_codeOf_17 : decode b_Journal_codeOf 17 = .ok (.sipush (-1000), 3) := by decide +kernel
theorem d_Journal_codeOf_20 : decode b_Journal_codeOf 20 = .ok (.ireturn, 1) := by decide +kernel
theorem d_Journal_codeOf_21 : decode b_Journal_codeOf 21 = .ok (.aload_n 0, 1) := by decide +kernel
theorem d_Journal_codeOf_22 : decode b_Journal_codeOf 22 = .ok (.getfield 15, 3) := by decide +kernel
theorem d_Journal_codeOf_25 : decode b_Journal_codeOf 25 = .ok (.iload_n 1, 1) := by decide +kernel
theorem d_Journal_codeOf_26 : decode b_Journal_codeOf 26 = .ok (.iconst 4, 1) := by decide +kernel
theorem d_Journal_codeOf_27 : decode b_Journal_codeOf 27 = .ok (.imul, 1) := by decide +kernel
theorem d_Journal_codeOf_28 : decode b_Journal_codeOf 28 = .ok (.iload_n 2, 1) := by decide +kernel
theorem d_Journal_codeOf_29 : decode b_Journal_codeOf 29 = .ok (.iadd, 1) := by decide +kernel
theorem d_Journal_codeOf_30 : decode b_Journal_codeOf 30 = .ok (.iaload, 1) := by decide +kernel
theorem d_Journal_codeOf_31 : decode b_Journal_codeOf 31 = .ok (.ireturn, 1) := by decide +kernel
theorem d_Journal_events_0 : decode b_Journal_events 0 = .ok (.aload_n 0, 1) := by decide +kernel
theorem d_Journal_events_1 : decode b_Journal_events 1 = .ok (.getfield 21, 3) := by decide +kernel
theorem d_Journal_events_4 : decode b_Journal_events 4 = .ok (.ireturn, 1) := by decide +kernel
theorem d_Journal_skips_0 : decode b_Journal_skips 0 = .ok (.aload_n 0, 1) := by decide +kernel
theorem d_Journal_skips_1 : decode b_Journal_skips 1 = .ok (.getfield 25, 3) := by decide +kernel
theorem d_Journal_skips_4 : decode b_Journal_skips 4 = .ok (.ireturn, 1) := by decide +kernel
theorem d_Journal_troubledContainers_0 : decode b_Journal_troubledContainers 0 = .ok (.aload_n 0, 1) := by decide +kernel
theorem d_Journal_troubledContainers_1 : decode b_Journal_troubledContainers 1 = .ok (.getfield 28, 3) := by decide +kernel
theorem d_Journal_troubledContainers_4 : decode b_Journal_troubledContainers 4 = .ok (.ireturn, 1) := by decide +kernel
theorem d_Journal_roundsWith_0 : decode b_Journal_roundsWith 0 = .ok (.aload_n 0, 1) := by decide +kernel
theorem d_Journal_roundsWith_1 : decode b_Journal_roundsWith 1 = .ok (.getfield 18, 3) := by decide +kernel
theorem d_Journal_roundsWith_4 : decode b_Journal_roundsWith 4 = .ok (.iload_n 1, 1) := by decide +kernel
theorem d_Journal_roundsWith_5 : decode b_Journal_roundsWith 5 = .ok (.iaload, 1) := by decide +kernel
theorem d_Journal_roundsWith_6 : decode b_Journal_roundsWith 6 = .ok (.ireturn, 1) := by decide +kernel
theorem d_Journal_hasFailure_0 : decode b_Journal_hasFailure 0 = .ok (.aload_n 0, 1) := by decide +kernel
theorem d_Journal_hasFailure_1 : decode b_Journal_hasFailure 1 = .ok (.getfield 31, 3) := by decide +kernel
theorem d_Journal_hasFailure_4 : decode b_Journal_hasFailure 4 = .ok (.ireturn, 1) := by decide +kernel
theorem d_Methods_init_0 : decode b_Methods_init 0 = .ok (.aload_n 0, 1) := by decide +kernel
theorem d_Methods_init_1 : decode b_Methods_init 1 = .ok (.invokespecial 3, 3) := by decide +kernel
theorem d_Methods_init_4 : decode b_Methods_init 4 = .ok (.aload_n 0, 1) := by decide +kernel
theorem d_Methods_init_5 : decode b_Methods_init 5 = .ok (.sipush 168, 3) := by decide +kernel
theorem d_Methods_init_8 : decode b_Methods_init 8 = .ok (.newarray .boolean, 2) := by decide +kernel
theorem d_Methods_init_10 : decode b_Methods_init 10 = .ok (.putfield 9, 3) := by decide +kernel
theorem d_Methods_init_13 : decode b_Methods_init 13 = .ok (.aload_n 0, 1) := by decide +kernel
theorem d_Methods_init_14 : decode b_Methods_init 14 = .ok (.sipush 168, 3) := by decide +kernel
theorem d_Methods_init_17 : decode b_Methods_init 17 = .ok (.newarray .int, 2) := by decide +kernel
theorem d_Methods_init_19 : decode b_Methods_init 19 = .ok (.putfield 15, 3) := by decide +kernel
theorem d_Methods_init_22 : decode b_Methods_init 22 = .ok (.aload_n 0, 1) := by decide +kernel
theorem d_Methods_init_23 : decode b_Methods_init 23 = .ok (.sipush 168, 3) := by decide +kernel
theorem d_Methods_init_26 : decode b_Methods_init 26 = .ok (.newarray .int, 2) := by decide +kernel
theorem d_Methods_init_28 : decode b_Methods_init 28 = .ok (.putfield 19, 3) := by decide +kernel
theorem d_Methods_init_31 : decode b_Methods_init 31 = .ok (.aload_n 0, 1) := by decide +kernel
theorem d_Methods_init_32 : decode b_Methods_init 32 = .ok (.sipush 168, 3) := by decide +kernel
theorem d_Methods_init_35 : decode b_Methods_init 35 = .ok (.newarray .int, 2) := by decide +kernel
theorem d_Methods_init_37 : decode b_Methods_init 37 = .ok (.putfield 22, 3) := by decide +kernel
theorem d_Methods_init_40 : decode b_Methods_init 40 = .ok (.return_, 1) := by decide +kernel
theorem d_Methods_placeOf_0 : decode b_Methods_placeOf 0 = .ok (.iload_n 0, 1) := by decide +kernel
theorem d_Methods_placeOf_1 : decode b_Methods_placeOf 1 = .ok (.bipush 7, 2) := by decide +kernel
theorem d_Methods_placeOf_3 : decode b_Methods_placeOf 3 = .ok (.imul, 1) := by decide +kernel
theorem d_Methods_placeOf_4 : decode b_Methods_placeOf 4 = .ok (.iload_n 1, 1) := by decide +kernel
theorem d_Methods_placeOf_5 : decode b_Methods_placeOf 5 = .ok (.iadd, 1) := by decide +kernel
theorem d_Methods_placeOf_6 : decode b_Methods_placeOf 6 = .ok (.ireturn, 1) := by decide +kernel
theorem d_Methods_giveBodies_0 : decode b_Methods_giveBodies 0 = .ok (.iconst 0, 1) := by decide +kernel
theorem d_Methods_giveBodies_1 : decode b_Methods_giveBodies 1 = .ok (.istore_n 3, 1) := by decide +kernel
theorem d_Methods_giveBodies_2 : decode b_Methods_giveBodies 2 = .ok (.iload_n 3, 1) := by decide +kernel
theorem d_Methods_giveBodies_3 : decode b_Methods_giveBodies 3 = .ok (.iload_n 2, 1) := by decide +kernel
theorem d_Methods_giveBodies_4 : decode b_Methods_giveBodies 4 = .ok (.if_icmp .ge 20, 3) := by decide +kernel
theorem d_Methods_giveBodies_7 : decode b_Methods_giveBodies 7 = .ok (.aload_n 0, 1) := by decide +kernel
theorem d_Methods_giveBodies_8 : decode b_Methods_giveBodies 8 = .ok (.iload_n 1, 1) := by decide +kernel
theorem d_Methods_giveBodies_9 : decode b_Methods_giveBodies 9 = .ok (.iconst 4, 1) := by decide +kernel
theorem d_Methods_giveBodies_10 : decode b_Methods_giveBodies 10 = .ok (.iload_n 3, 1) := by decide +kernel
theorem d_Methods_giveBodies_11 : decode b_Methods_giveBodies 11 = .ok (.iadd, 1) := by decide +kernel
theorem d_Methods_giveBodies_12 : decode b_Methods_giveBodies 12 = .ok (.iconst 0, 1) := by decide +kernel
theorem d_Methods_giveBodies_13 : decode b_Methods_giveBodies 13 = .ok (.iconst 0, 1) := by decide +kernel
theorem d_Methods_giveBodies_14 : decode b_Methods_giveBodies 14 = .ok (.iconst 0, 1) := by decide +kernel
theorem d_Methods_giveBodies_15 : decode b_Methods_giveBodies 15 = .ok (.invokevirtual 25, 3) := by decide +kernel
theorem d_Methods_giveBodies_18 : decode b_Methods_giveBodies 18 = .ok (.iinc 3 1, 3) := by decide +kernel
theorem d_Methods_giveBodies_21 : decode b_Methods_giveBodies 21 = .ok (.goto (-19), 3) := by decide +kernel
theorem d_Methods_giveBodies_24 : decode b_Methods_giveBodies 24 = .ok (.return_, 1) := by decide +kernel
theorem d_Methods_give_0 : decode b_Methods_give 0 = .ok (.iload_n 1, 1) := by decide +kernel
theorem d_Methods_give_1 : decode b_Methods_give 1 = .ok (.iload_n 2, 1) := by decide +kernel
theorem d_Methods_give_2 : decode b_Methods_give 2 = .ok (.invokestatic 29, 3) := by decide +kernel
theorem d_Methods_give_5 : decode b_Methods_give 5 = .ok (.istore 6, 2) := by decide +kernel
theorem d_Methods_give_7 : decode b_Methods_give 7 = .ok (.aload_n 0, 1) := by decide +kernel
theorem d_Methods_give_8 : decode b_Methods_give 8 = .ok (.getfield 9, 3) := by decide +kernel
theorem d_Methods_give_11 : decode b_Methods_give 11 = .ok (.iload 6, 2) := by decide +kernel
theorem d_Methods_give_13 : decode b_Methods_give 13 = .ok (.iconst 1, 1) := by decide +kernel
theorem d_Methods_give_14 : decode b_Methods_give 14 = .ok (.bastore, 1) := by decide +kernel
theorem d_Methods_give_15 : decode b_Methods_give 15 = .ok (.aload_n 0, 1) := by decide +kernel
theorem d_Methods_give_16 : decode b_Methods_give 16 = .ok (.getfield 15, 3) := by decide +kernel
theorem d_Methods_give_19 : decode b_Methods_give 19 = .ok (.iload 6, 2) := by decide +kernel
theorem d_Methods_give_21 : decode b_Methods_give 21 = .ok (.iload_n 3, 1) := by decide +kernel
theorem d_Methods_give_22 : decode b_Methods_give 22 = .ok (.iastore, 1) := by decide +kernel
theorem d_Methods_give_23 : decode b_Methods_give 23 = .ok (.aload_n 0, 1) := by decide +kernel
theorem d_Methods_give_24 : decode b_Methods_give 24 = .ok (.getfield 19, 3) := by decide +kernel
theorem d_Methods_give_27 : decode b_Methods_give 27 = .ok (.iload 6, 2) := by decide +kernel
theorem d_Methods_give_29 : decode b_Methods_give 29 = .ok (.iload 4, 2) := by decide +kernel
theorem d_Methods_give_31 : decode b_Methods_give 31 = .ok (.iastore, 1) := by decide +kernel
theorem d_Methods_give_32 : decode b_Methods_give 32 = .ok (.aload_n 0, 1) := by decide +kernel
theorem d_Methods_give_33 : decode b_Methods_give 33 = .ok (.getfield 22, 3) := by decide +kernel
theorem d_Methods_give_36 : decode b_Methods_give 36 = .ok (.iload 6, 2) := by decide +kernel
theorem d_Methods_give_38 : decode b_Methods_give 38 = .ok (.iload 5, 2) := by decide +kernel
theorem d_Methods_give_40 : decode b_Methods_give 40 = .ok (.iastore, 1) := by decide +kernel
theorem d_Methods_give_41 : decode b_Methods_give 41 = .ok (.return_, 1) := by decide +kernel
theorem d_Methods_takeAt_0 : decode b_Methods_takeAt 0 = .ok (.aload_n 0, 1) := by decide +kernel
theorem d_Methods_takeAt_1 : decode b_Methods_takeAt 1 = .ok (.getfield 9, 3) := by decide +kernel
theorem d_Methods_takeAt_4 : decode b_Methods_takeAt 4 = .ok (.iload_n 1, 1) := by decide +kernel
theorem d_Methods_takeAt_5 : decode b_Methods_takeAt 5 = .ok (.iconst 0, 1) := by decide +kernel
theorem d_Methods_takeAt_6 : decode b_Methods_takeAt 6 = .ok (.bastore, 1) := by decide +kernel
theorem d_Methods_takeAt_7 : decode b_Methods_takeAt 7 = .ok (.return_, 1) := by decide +kernel
theorem d_Methods_isThere_0 : decode b_Methods_isThere 0 = .ok (.aload_n 0, 1) := by decide +kernel
theorem d_Methods_isThere_1 : decode b_Methods_isThere 1 = .ok (.getfield 9, 3) := by decide +kernel
theorem d_Methods_isThere_4 : decode b_Methods_isThere 4 = .ok (.iload_n 1, 1) := by decide +kernel
theorem d_Methods_isThere_5 : decode b_Methods_isThere 5 = .ok (.baload, 1) := by decide +kernel
theorem d_Methods_isThere_6 : decode b_Methods_isThere 6 = .ok (.ireturn, 1) := by decide +kernel
theorem d_Methods_resultAt_0 : decode b_Methods_resultAt 0 = .ok (.aload_n 0, 1) := by decide +kernel
theorem d_Methods_resultAt_1 : decode b_Methods_resultAt 1 = .ok (.getfield 15, 3) := by decide +kernel
theorem d_Methods_resultAt_4 : decode b_Methods_resultAt 4 = .ok (.iload_n 1, 1) := by decide +kernel
theorem d_Methods_resultAt_5 : decode b_Methods_resultAt 5 = .ok (.iaload, 1) := by decide +kernel
theorem d_Methods_resultAt_6 : decode b_Methods_resultAt 6 = .ok (.ireturn, 1) := by decide +kernel
theorem d_Methods_codeAt_0 : decode b_Methods_codeAt 0 = .ok (.aload_n 0, 1) := by decide +kernel
theorem d_Methods_codeAt_1 : decode b_Methods_codeAt 1 = .ok (.getfield 19, 3) := by decide +kernel
theorem d_Methods_codeAt_4 : decode b_Methods_codeAt 4 = .ok (.iload_n 1, 1) := by decide +kernel
theorem d_Methods_codeAt_5 : decode b_Methods_codeAt 5 = .ok (.iaload, 1) := by decide +kernel
theorem d_Methods_codeAt_6 : decode b_Methods_codeAt 6 = .ok (.ireturn, 1) := by decide +kernel
theorem d_Methods_lengthAt_0 : decode b_Methods_lengthAt 0 = .ok (.aload_n 0, 1) := by decide +kernel
theorem d_Methods_lengthAt_1 : decode b_Methods_lengthAt 1 = .ok (.getfield 22, 3) := by decide +kernel
theorem d_Methods_lengthAt_4 : decode b_Methods_lengthAt 4 = .ok (.iload_n 1, 1) := by decide +kernel
theorem d_Methods_lengthAt_5 : decode b_Methods_lengthAt 5 = .ok (.iaload, 1) := by decide +kernel
theorem d_Methods_lengthAt_6 : decode b_Methods_lengthAt 6 = .ok (.ireturn, 1) := by decide +kernel
theorem d_Runner_init_0 : decode b_Runner_init 0 = .ok (.aload_n 0, 1) := by decide +kernel
theorem d_Runner_init_1 : decode b_Runner_init 1 = .ok (.invokespecial 3, 3) := by decide +kernel
theorem d_Runner_init_4 : decode b_Runner_init 4 = .ok (.aload_n 0, 1) := by decide +kernel
theorem d_Runner_init_5 : decode b_Runner_init 5 = .ok (.aload_n 1, 1) := by decide +kernel
theorem d_Runner_init_6 : decode b_Runner_init 6 = .ok (.putfield 9, 3) := by decide +kernel
theorem d_Runner_init_9 : decode b_Runner_init 9 = .ok (.aload_n 0, 1) := by decide +kernel
theorem d_Runner_init_10 : decode b_Runner_init 10 = .ok (.aload_n 2, 1) := by decide +kernel
theorem d_Runner_init_11 : decode b_Runner_init 11 = .ok (.putfield 15, 3) := by decide +kernel
theorem d_Runner_init_14 : decode b_Runner_init 14 = .ok (.aload_n 0, 1) := by decide +kernel
theorem d_Runner_init_15 : decode b_Runner_init 15 = .ok (.aload_n 3, 1) := by decide +kernel
theorem d_Runner_init_16 : decode b_Runner_init 16 = .ok (.putfield 19, 3) := by decide +kernel
theorem d_Runner_init_19 : decode b_Runner_init 19 = .ok (.aload_n 0, 1) := by decide +kernel
theorem d_Runner_init_20 : decode b_Runner_init 20 = .ok (.aload 4, 2) := by decide +kernel
theorem d_Runner_init_22 : decode b_Runner_init 22 = .ok (.putfield 23, 3) := by decide +kernel
theorem d_Runner_init_25 : decode b_Runner_init 25 = .ok (.aload_n 0, 1) := by decide +kernel
theorem d_Runner_init_26 : decode b_Runner_init 26 = .ok (.iconst 5, 1) := by decide +kernel
theorem d_Runner_init_27 : decode b_Runner_init 27 = .ok (.anewarray 27, 3) := by decide +kernel
theorem d_Runner_init_30 : decode b_Runner_init 30 = .ok (.putfield 29, 3) := by decide +kernel
theorem d_Runner_init_33 : decode b_Runner_init 33 = .ok (.iconst 0, 1) := by decide +kernel
theorem d_Runner_init_34 : decode b_Runner_init 34 = .ok (.istore 5, 2) := by decide +kernel
theorem d_Runner_init_36 : decode b_Runner_init 36 = .ok (.iload 5, 2) := by decide +kernel
theorem d_Runner_init_38 : decode b_Runner_init 38 = .ok (.iconst 5, 1) := by decide +kernel
theorem d_Runner_init_39 : decode b_Runner_init 39 = .ok (.if_icmp .ge 23, 3) := by decide +kernel
theorem d_Runner_init_42 : decode b_Runner_init 42 = .ok (.aload_n 0, 1) := by decide +kernel
theorem d_Runner_init_43 : decode b_Runner_init 43 = .ok (.getfield 29, 3) := by decide +kernel
theorem d_Runner_init_46 : decode b_Runner_init 46 = .ok (.iload 5, 2) := by decide +kernel
theorem d_Runner_init_48 : decode b_Runner_init 48 = .ok (.new 27, 3) := by decide +kernel
theorem d_Runner_init_51 : decode b_Runner_init 51 = .ok (.dup, 1) := by decide +kernel
theorem d_Runner_init_52 : decode b_Runner_init 52 = .ok (.invokespecial 33, 3) := by decide +kernel
theorem d_Runner_init_55 : decode b_Runner_init 55 = .ok (.aastore, 1) := by decide +kernel
theorem d_Runner_init_56 : decode b_Runner_init 56 = .ok (.iinc 5 1, 3) := by decide +kernel
theorem d_Runner_init_59 : decode b_Runner_init 59 = .ok (.goto (-23), 3) := by decide +kernel
theorem d_Runner_init_62 : decode b_Runner_init 62 = .ok (.aload_n 0, 1) := by decide +kernel
theorem d_Runner_init_63 : decode b_Runner_init 63 = .ok (.iconst 4, 1) := by decide +kernel
theorem d_Runner_init_64 : decode b_Runner_init 64 = .ok (.newarray .int, 2) := by decide +kernel
theorem d_Runner_init_66 : decode b_Runner_init 66 = .ok (.putfield 34, 3) := by decide +kernel
theorem d_Runner_init_69 : decode b_Runner_init 69 = .ok (.aload_n 0, 1) := by decide +kernel
theorem d_Runner_init_70 : decode b_Runner_init 70 = .ok (.bipush 24, 2) := by decide +kernel
theorem d_Runner_init_72 : decode b_Runner_init 72 = .ok (.newarray .int, 2) := by decide +kernel
theorem d_Runner_init_74 : decode b_Runner_init 74 = .ok (.putfield 38, 3) := by decide +kernel
theorem d_Runner_init_77 : decode b_Runner_init 77 = .ok (.return_, 1) := by decide +kernel
theorem d_Runner_reset_0 : decode b_Runner_reset 0 = .ok (.aload_n 0, 1) := by decide +kernel
theorem d_Runner_reset_1 : decode b_Runner_reset 1 = .ok (.iconst 0, 1) := by decide +kernel
theorem d_Runner_reset_2 : decode b_Runner_reset 2 = .ok (.putfield 41, 3) := by decide +kernel
theorem d_Runner_reset_5 : decode b_Runner_reset 5 = .ok (.aload_n 0, 1) := by decide +kernel
theorem d_Runner_reset_6 : decode b_Runner_reset 6 = .ok (.iconst 0, 1) := by decide +kernel
theorem d_Runner_reset_7 : decode b_Runner_reset 7 = .ok (.putfield 45, 3) := by decide +kernel
theorem d_Runner_reset_10 : decode b_Runner_reset 10 = .ok (.aload_n 0, 1) := by decide +kernel
theorem d_Runner_reset_11 : decode b_Runner_reset 11 = .ok (.iconst 0, 1) := by decide +kernel
theorem d_Runner_reset_12 : decode b_Runner_reset 12 = .ok (.putfield 48, 3) := by decide +kernel
theorem d_Runner_reset_15 : decode b_Runner_reset 15 = .ok (.aload_n 0, 1) := by decide +kernel
end
section
theorem d_Runner_reset_16 : decode b_Runner_reset 16 = .ok (.iload_n 1, 1) := by decide +kernel
theorem d_Runner_reset_17 : decode b_Runner_reset 17 = .ok (.putfield 51, 3) := by decide +kernel
theorem d_Runner_reset_20 : decode b_Runner_reset 20 = .ok (.return_, 1) := by decide +kernel
theorem d_Runner_doNode_0 : decode b_Runner_doNode 0 = .ok (.iload_n 2, 1) := by decide +kernel
theorem d_Runner_doNode_1 : decode b_Runner_doNode 1 = .ok (.iconst 0, 1) := by decide +kernel
theorem d_Runner_doNode_2 : decode b_Runner_doNode 2 = .ok (.iconst 4, 1) := by decide +kernel
theorem d_Runner_doNode_3 : decode b_Runner_doNode 3 = .ok (.invokestatic 54, 3) := by decide +kernel
theorem d_Runner_doNode_6 : decode b_Runner_doNode 6 = .ok (.ifCond .eq 14, 3) := by decide +kernel
theorem d_Runner_doNode_9 : decode b_Runner_doNode 9 = .ok (.aload_n 0, 1) := by decide +kernel
theorem d_Runner_doNode_10 : decode b_Runner_doNode 10 = .ok (.getfield 19, 3) := by decide +kernel
theorem d_Runner_doNode_13 : decode b_Runner_doNode 13 = .ok (.iload_n 1, 1) := by decide +kernel
theorem d_Runner_doNode_14 : decode b_Runner_doNode 14 = .ok (.invokevirtual 58, 3) := by decide +kernel
theorem d_Runner_doNode_17 : decode b_Runner_doNode 17 = .ok (.ifCond .ne 4, 3) := by decide +kernel
theorem d_Runner_doNode_20 : decode b_Runner_doNode 20 = .ok (.return_, 1) := by decide +kernel
theorem d_Runner_doNode_21 : decode b_Runner_doNode 21 = .ok (.aload_n 0, 1) := by decide +kernel
theorem d_Runner_doNode_22 : decode b_Runner_doNode 22 = .ok (.getfield 9, 3) := by decide +kernel
theorem d_Runner_doNode_25 : decode b_Runner_doNode 25 = .ok (.iload_n 1, 1) := by decide +kernel
theorem d_Runner_doNode_26 : decode b_Runner_doNode 26 = .ok (.invokevirtual 64, 3) := by decide +kernel
theorem d_Runner_doNode_29 : decode b_Runner_doNode 29 = .ok (.ifCond .ne 10, 3) := by decide +kernel
theorem d_Runner_doNode_32 : decode b_Runner_doNode 32 = .ok (.aload_n 0, 1) := by decide +kernel
theorem d_Runner_doNode_33 : decode b_Runner_doNode 33 = .ok (.invokevirtual 69, 3) := by decide +kernel
theorem d_Runner_doNode_36 : decode b_Runner_doNode 36 = .ok (.ifCond .eq 19, 3) := by decide +kernel
theorem d_Runner_doNode_39 : decode b_Runner_doNode 39 = .ok (.aload_n 0, 1) := by decide +kernel
theorem d_Runner_doNode_40 : decode b_Runner_doNode 40 = .ok (.getfield 23, 3) := by decide +kernel
theorem d_Runner_doNode_43 : decode b_Runner_doNode 43 = .ok (.iload_n 1, 1) := by decide +kernel
theorem d_Runner_doNode_44 : decode b_Runner_doNode 44 = .ok (.iconst 0, 1) := by decide +kernel
theorem d_Runner_doNode_45 : decode b_Runner_doNode 45 = .ok (.aload_n 0, 1) := by decide +kernel
theorem d_Runner_doNode_46 : decode b_Runner_doNode 46 = .ok (.getfield 45, 3) := by decide +kernel
theorem d_Runner_doNode_49 : decode b_Runner_doNode 49 = .ok (.invokevirtual 73, 3) := by decide +kernel
theorem d_Runner_doNode_52 : decode b_Runner_doNode 52 = .ok (.goto 29, 3) := by decide +kernel
theorem d_Runner_doNode_55 : decode b_Runner_doNode 55 = .ok (.aload_n 0, 1) := by decide +kernel
theorem d_Runner_doNode_56 : decode b_Runner_doNode 56 = .ok (.getfield 9, 3) := by decide +kernel
theorem d_Runner_doNode_59 : decode b_Runner_doNode 59 = .ok (.iload_n 1, 1) := by decide +kernel
theorem d_Runner_doNode_60 : decode b_Runner_doNode 60 = .ok (.invokevirtual 79, 3) := by decide +kernel
theorem d_Runner_doNode_63 : decode b_Runner_doNode 63 = .ok (.ifCond .eq 12, 3) := by decide +kernel
theorem d_Runner_doNode_66 : decode b_Runner_doNode 66 = .ok (.aload_n 0, 1) := by decide +kernel
theorem d_Runner_doNode_67 : decode b_Runner_doNode 67 = .ok (.iload_n 1, 1) := by decide +kernel
theorem d_Runner_doNode_68 : decode b_Runner_doNode 68 = .ok (.iload_n 2, 1) := by decide +kernel
theorem d_Runner_doNode_69 : decode b_Runner_doNode 69 = .ok (.invokevirtual 82, 3) := by decide +kernel
theorem d_Runner_doNode_72 : decode b_Runner_doNode 72 = .ok (.goto 9, 3) := by decide +kernel
theorem d_Runner_doNode_75 : decode b_Runner_doNode 75 = .ok (.aload_n 0, 1) := by decide +kernel
theorem d_Runner_doNode_76 : decode b_Runner_doNode 76 = .ok (.iload_n 1, 1) := by decide +kernel
theorem d_Runner_doNode_77 : decode b_Runner_doNode 77 = .ok (.iload_n 2, 1) := by decide +kernel
theorem d_Runner_doNode_78 : decode b_Runner_doNode 78 = .ok (.invokevirtual 86, 3) := by decide +kernel
theorem d_Runner_doNode_81 : decode b_Runner_doNode 81 = .ok (.return_, 1) := by decide +kernel
theorem d_Runner_isBroken_0 : decode b_Runner_isBroken 0 = .ok (.aload_n 0, 1) := by decide +kernel
theorem d_Runner_isBroken_1 : decode b_Runner_isBroken 1 = .ok (.getfield 51, 3) := by decide +kernel
theorem d_Runner_isBroken_4 : decode b_Runner_isBroken 4 = .ok (.ifCond .le 22, 3) := by decide +kernel
theorem d_Runner_isBroken_7 : decode b_Runner_isBroken 7 = .ok (.aload_n 0, 1) := by decide +kernel
theorem d_Runner_isBroken_8 : decode b_Runner_isBroken 8 = .ok (.getfield 23, 3) := by decide +kernel
theorem d_Runner_isBroken_11 : decode b_Runner_isBroken 11 = .ok (.iconst 1, 1) := by decide +kernel
theorem d_Runner_isBroken_12 : decode b_Runner_isBroken 12 = .ok (.invokevirtual 89, 3) := by decide +kernel
theorem d_Runner_isBroken_15 : decode b_Runner_isBroken 15 = .ok (.aload_n 0, 1) := by decide +kernel
theorem d_Runner_isBroken_16 : decode b_Runner_isBroken 16 = .ok (.getfield 51, 3) := by decide +kernel
theorem d_Runner_isBroken_19 : decode b_Runner_isBroken 19 = .ok (.if_icmp .lt 7, 3) := by decide +kernel
theorem d_Runner_isBroken_22 : decode b_Runner_isBroken 22 = .ok (.iconst 1, 1) := by decide +kernel
theorem d_Runner_isBroken_23 : decode b_Runner_isBroken 23 = .ok (.goto 4, 3) := by decide +kernel
theorem d_Runner_isBroken_26 : decode b_Runner_isBroken 26 = .ok (.iconst 0, 1) := by decide +kernel
theorem d_Runner_isBroken_27 : decode b_Runner_isBroken 27 = .ok (.ireturn, 1) := by decide +kernel
theorem d_Runner_doContainer_0 : decode b_Runner_doContainer 0 = .ok (.aload_n 0, 1) := by decide +kernel
theorem d_Runner_doContainer_1 : decode b_Runner_doContainer 1 = .ok (.getfield 23, 3) := by decide +kernel
theorem d_Runner_doContainer_4 : decode b_Runner_doContainer 4 = .ok (.iload_n 1, 1) := by decide +kernel
theorem d_Runner_doContainer_5 : decode b_Runner_doContainer 5 = .ok (.iconst 0, 1) := by decide +kernel
theorem d_Runner_doContainer_6 : decode b_Runner_doContainer 6 = .ok (.aload_n 0, 1) := by decide +kernel
theorem d_Runner_doContainer_7 : decode b_Runner_doContainer 7 = .ok (.getfield 45, 3) := by decide +kernel
theorem d_Runner_doContainer_10 : decode b_Runner_doContainer 10 = .ok (.invokevirtual 93, 3) := by decide +kernel
theorem d_Runner_doContainer_13 : decode b_Runner_doContainer 13 = .ok (.aload_n 0, 1) := by decide +kernel
theorem d_Runner_doContainer_14 : decode b_Runner_doContainer 14 = .ok (.getfield 9, 3) := by decide +kernel
theorem d_Runner_doContainer_17 : decode b_Runner_doContainer 17 = .ok (.iload_n 1, 1) := by decide +kernel
theorem d_Runner_doContainer_18 : decode b_Runner_doContainer 18 = .ok (.invokevirtual 96, 3) := by decide +kernel
theorem d_Runner_doContainer_21 : decode b_Runner_doContainer 21 = .ok (.ifCond .eq 8, 3) := by decide +kernel
theorem d_Runner_doContainer_24 : decode b_Runner_doContainer 24 = .ok (.aload_n 0, 1) := by decide +kernel
theorem d_Runner_doContainer_25 : decode b_Runner_doContainer 25 = .ok (.iload_n 1, 1) := by decide +kernel
theorem d_Runner_doContainer_26 : decode b_Runner_doContainer 26 = .ok (.invokevirtual 99, 3) := by decide +kernel
theorem d_Runner_doContainer_29 : decode b_Runner_doContainer 29 = .ok (.aload_n 0, 1) := by decide +kernel
theorem d_Runner_doContainer_30 : decode b_Runner_doContainer 30 = .ok (.getfield 29, 3) := by decide +kernel
theorem d_Runner_doContainer_33 : decode b_Runner_doContainer 33 = .ok (.iload_n 2, 1) := by decide +kernel
theorem d_Runner_doContainer_34 : decode b_Runner_doContainer 34 = .ok (.aaload, 1) := by decide +kernel
theorem d_Runner_doContainer_35 : decode b_Runner_doContainer 35 = .ok (.astore_n 3, 1) := by decide +kernel
theorem d_Runner_doContainer_36 : decode b_Runner_doContainer 36 = .ok (.aload_n 3, 1) := by decide +kernel
theorem d_Runner_doContainer_37 : decode b_Runner_doContainer 37 = .ok (.invokevirtual 103, 3) := by decide +kernel
theorem d_Runner_doContainer_40 : decode b_Runner_doContainer 40 = .ok (.aload_n 0, 1) := by decide +kernel
theorem d_Runner_doContainer_41 : decode b_Runner_doContainer 41 = .ok (.iload_n 1, 1) := by decide +kernel
theorem d_Runner_doContainer_42 : decode b_Runner_doContainer 42 = .ok (.iconst 0, 1) := by decide +kernel
theorem d_Runner_doContainer_43 : decode b_Runner_doContainer 43 = .ok (.aload_n 3, 1) := by decide +kernel
theorem d_Runner_doContainer_44 : decode b_Runner_doContainer 44 = .ok (.invokevirtual 106, 3) := by decide +kernel
theorem d_Runner_doContainer_47 : decode b_Runner_doContainer 47 = .ok (.aload_n 3, 1) := by decide +kernel
theorem d_Runner_doContainer_48 : decode b_Runner_doContainer 48 = .ok (.invokevirtual 110, 3) := by decide +kernel
theorem d_Runner_doContainer_51 : decode b_Runner_doContainer 51 = .ok (.ifCond .eq 11, 3) := by decide +kernel
theorem d_Runner_doContainer_54 : decode b_Runner_doContainer 54 = .ok (.aload_n 0, 1) := by decide +kernel
theorem d_Runner_doContainer_55 : decode b_Runner_doContainer 55 = .ok (.iload_n 1, 1) := by decide +kernel
theorem d_Runner_doContainer_56 : decode b_Runner_doContainer 56 = .ok (.iload_n 2, 1) := by decide +kernel
theorem d_Runner_doContainer_57 : decode b_Runner_doContainer 57 = .ok (.iconst 1, 1) := by decide +kernel
theorem d_Runner_doContainer_58 : decode b_Runner_doContainer 58 = .ok (.iadd, 1) := by decide +kernel
theorem d_Runner_doContainer_59 : decode b_Runner_doContainer 59 = .ok (.invokevirtual 113, 3) := by decide +kernel
theorem d_Runner_doContainer_62 : decode b_Runner_doContainer 62 = .ok (.aload_n 0, 1) := by decide +kernel
theorem d_Runner_doContainer_63 : decode b_Runner_doContainer 63 = .ok (.iload_n 1, 1) := by decide +kernel
theorem d_Runner_doContainer_64 : decode b_Runner_doContainer 64 = .ok (.iconst 3, 1) := by decide +kernel
theorem d_Runner_doContainer_65 : decode b_Runner_doContainer 65 = .ok (.aload_n 3, 1) := by decide +kernel
theorem d_Runner_doContainer_66 : decode b_Runner_doContainer 66 = .ok (.invokevirtual 106, 3) := by decide +kernel
theorem d_Runner_doContainer_69 : decode b_Runner_doContainer 69 = .ok (.aload_n 0, 1) := by decide +kernel
theorem d_Runner_doContainer_70 : decode b_Runner_doContainer 70 = .ok (.getfield 23, 3) := by decide +kernel
theorem d_Runner_doContainer_73 : decode b_Runner_doContainer 73 = .ok (.iload_n 1, 1) := by decide +kernel
theorem d_Runner_doContainer_74 : decode b_Runner_doContainer 74 = .ok (.aload_n 0, 1) := by decide +kernel
theorem d_Runner_doContainer_75 : decode b_Runner_doContainer 75 = .ok (.getfield 45, 3) := by decide +kernel
theorem d_Runner_doContainer_78 : decode b_Runner_doContainer 78 = .ok (.aload_n 3, 1) := by decide +kernel
theorem d_Runner_doContainer_79 : decode b_Runner_doContainer 79 = .ok (.aload_n 0, 1) := by decide +kernel
theorem d_Runner_doContainer_80 : decode b_Runner_doContainer 80 = .ok (.getfield 9, 3) := by decide +kernel
theorem d_Runner_doContainer_83 : decode b_Runner_doContainer 83 = .ok (.iload_n 1, 1) := by decide +kernel
theorem d_Runner_doContainer_84 : decode b_Runner_doContainer 84 = .ok (.invokevirtual 96, 3) := by decide +kernel
theorem d_Runner_doContainer_87 : decode b_Runner_doContainer 87 = .ok (.ifCond .eq 12, 3) := by decide +kernel
theorem d_Runner_doContainer_90 : decode b_Runner_doContainer 90 = .ok (.aload_n 0, 1) := by decide +kernel
theorem d_Runner_doContainer_91 : decode b_Runner_doContainer 91 = .ok (.getfield 38, 3) := by decide +kernel
theorem d_Runner_doContainer_94 : decode b_Runner_doContainer 94 = .ok (.iload_n 1, 1) := by decide +kernel
theorem d_Runner_doContainer_95 : decode b_Runner_doContainer 95 = .ok (.iaload, 1) := by decide +kernel
theorem d_Runner_doContainer_96 : decode b_Runner_doContainer 96 = .ok (.goto 4, 3) := by decide +kernel
theorem d_Runner_doContainer_99 : decode b_Runner_doContainer 99 = .ok (.iconst 0, 1) := by decide +kernel
theorem d_Runner_doContainer_100 : decode b_Runner_doContainer 100 = .ok (.invokevirtual 116, 3) := by decide +kernel
theorem d_Runner_doContainer_103 : decode b_Runner_doContainer 103 = .ok (.return_, 1) := by decide +kernel
theorem d_Runner_doChildren_0 : decode b_Runner_doChildren 0 = .ok (.aload_n 0, 1) := by decide +kernel
theorem d_Runner_doChildren_1 : decode b_Runner_doChildren 1 = .ok (.getfield 9, 3) := by decide +kernel
theorem d_Runner_doChildren_4 : decode b_Runner_doChildren 4 = .ok (.iload_n 1, 1) := by decide +kernel
theorem d_Runner_doChildren_5 : decode b_Runner_doChildren 5 = .ok (.iconst (-1), 1) := by decide +kernel
theorem d_Runner_doChildren_6 : decode b_Runner_doChildren 6 = .ok (.invokevirtual 120, 3) := by decide +kernel
theorem d_Runner_doChildren_9 : decode b_Runner_doChildren 9 = .ok (.istore_n 3, 1) := by decide +kernel
theorem d_Runner_doChildren_10 : decode b_Runner_doChildren 10 = .ok (.iconst 0, 1) := by decide +kernel
theorem d_Runner_doChildren_11 : decode b_Runner_doChildren 11 = .ok (.istore 4, 2) := by decide +kernel
theorem d_Runner_doChildren_13 : decode b_Runner_doChildren 13 = .ok (.iload 4, 2) := by decide +kernel
theorem d_Runner_doChildren_15 : decode b_Runner_doChildren 15 = .ok (.bipush 24, 2) := by decide +kernel
theorem d_Runner_doChildren_17 : decode b_Runner_doChildren 17 = .ok (.if_icmp .ge 30, 3) := by decide +kernel
theorem d_Runner_doChildren_20 : decode b_Runner_doChildren 20 = .ok (.iload_n 3, 1) := by decide +kernel
theorem d_Runner_doChildren_21 : decode b_Runner_doChildren 21 = .ok (.iconst (-1), 1) := by decide +kernel
theorem d_Runner_doChildren_22 : decode b_Runner_doChildren 22 = .ok (.if_icmp .eq 25, 3) := by decide +kernel
theorem d_Runner_doChildren_25 : decode b_Runner_doChildren 25 = .ok (.aload_n 0, 1) := by decide +kernel
theorem d_Runner_doChildren_26 : decode b_Runner_doChildren 26 = .ok (.iload_n 3, 1) := by decide +kernel
theorem d_Runner_doChildren_27 : decode b_Runner_doChildren 27 = .ok (.iload_n 2, 1) := by decide +kernel
theorem d_Runner_doChildren_28 : decode b_Runner_doChildren 28 = .ok (.invokevirtual 124, 3) := by decide +kernel
theorem d_Runner_doChildren_31 : decode b_Runner_doChildren 31 = .ok (.aload_n 0, 1) := by decide +kernel
theorem d_Runner_doChildren_32 : decode b_Runner_doChildren 32 = .ok (.getfield 9, 3) := by decide +kernel
theorem d_Runner_doChildren_35 : decode b_Runner_doChildren 35 = .ok (.iload_n 1, 1) := by decide +kernel
theorem d_Runner_doChildren_36 : decode b_Runner_doChildren 36 = .ok (.iload_n 3, 1) := by decide +kernel
theorem d_Runner_doChildren_37 : decode b_Runner_doChildren 37 = .ok (.invokevirtual 120, 3) := by decide +kernel
theorem d_Runner_doChildren_40 : decode b_Runner_doChildren 40 = .ok (.istore_n 3, 1) := by decide +kernel
theorem d_Runner_doChildren_41 : decode b_Runner_doChildren 41 = .ok (.iinc 4 1, 3) := by decide +kernel
theorem d_Runner_doChildren_44 : decode b_Runner_doChildren 44 = .ok (.goto (-31), 3) := by decide +kernel
theorem d_Runner_doChildren_47 : decode b_Runner_doChildren 47 = .ok (.return_, 1) := by decide +kernel
theorem d_Runner_doTest_0 : decode b_Runner_doTest 0 = .ok (.iconst 0, 1) := by decide +kernel
theorem d_Runner_doTest_1 : decode b_Runner_doTest 1 = .ok (.istore_n 3, 1) := by decide +kernel
theorem d_Runner_doTest_2 : decode b_Runner_doTest 2 = .ok (.iload_n 3, 1) := by decide +kernel
theorem d_Runner_doTest_3 : decode b_Runner_doTest 3 = .ok (.aload_n 0, 1) := by decide +kernel
theorem d_Runner_doTest_4 : decode b_Runner_doTest 4 = .ok (.getfield 9, 3) := by decide +kernel
theorem d_Runner_doTest_7 : decode b_Runner_doTest 7 = .ok (.iload_n 1, 1) := by decide +kernel
theorem d_Runner_doTest_8 : decode b_Runner_doTest 8 = .ok (.invokevirtual 127, 3) := by decide +kernel
theorem d_Runner_doTest_11 : decode b_Runner_doTest 11 = .ok (.if_icmp .ge 46, 3) := by decide +kernel
theorem d_Runner_doTest_14 : decode b_Runner_doTest 14 = .ok (.iload_n 3, 1) := by decide +kernel
theorem d_Runner_doTest_15 : decode b_Runner_doTest 15 = .ok (.ifCond .le 24, 3) := by decide +kernel
theorem d_Runner_doTest_18 : decode b_Runner_doTest 18 = .ok (.aload_n 0, 1) := by decide +kernel
theorem d_Runner_doTest_19 : decode b_Runner_doTest 19 = .ok (.invokevirtual 69, 3) := by decide +kernel
theorem d_Runner_doTest_22 : decode b_Runner_doTest 22 = .ok (.ifCond .eq 17, 3) := by decide +kernel
theorem d_Runner_doTest_25 : decode b_Runner_doTest 25 = .ok (.aload_n 0, 1) := by decide +kernel
theorem d_Runner_doTest_26 : decode b_Runner_doTest 26 = .ok (.getfield 23, 3) := by decide +kernel
theorem d_Runner_doTest_29 : decode b_Runner_doTest 29 = .ok (.iload_n 1, 1) := by decide +kernel
theorem d_Runner_doTest_30 : decode b_Runner_doTest 30 = .ok (.iload_n 3, 1) := by decide +kernel
theorem d_Runner_doTest_31 : decode b_Runner_doTest 31 = .ok (.aload_n 0, 1) := by decide +kernel
theorem d_Runner_doTest_32 : decode b_Runner_doTest 32 = .ok (.getfield 45, 3) := by decide +kernel
theorem d_Runner_doTest_35 : decode b_Runner_doTest 35 = .ok (.invokevirtual 73, 3) := by decide +kernel
theorem d_Runner_doTest_38 : decode b_Runner_doTest 38 = .ok (.return_, 1) := by decide +kernel
theorem d_Runner_doTest_39 : decode b_Runner_doTest 39 = .ok (.aload_n 0, 1) := by decide +kernel
theorem d_Runner_doTest_40 : decode b_Runner_doTest 40 = .ok (.iload_n 1, 1) := by decide +kernel
theorem d_Runner_doTest_41 : decode b_Runner_doTest 41 = .ok (.iload_n 3, 1) := by decide +kernel
theorem d_Runner_doTest_42 : decode b_Runner_doTest 42 = .ok (.aload_n 0, 1) := by decide +kernel
theorem d_Runner_doTest_43 : decode b_Runner_doTest 43 = .ok (.getfield 29, 3) := by decide +kernel
theorem d_Runner_doTest_46 : decode b_Runner_doTest 46 = .ok (.iload_n 2, 1) := by decide +kernel
theorem d_Runner_doTest_47 : decode b_Runner_doTest 47 = .ok (.aaload, 1) := by decide +kernel
theorem d_Runner_doTest_48 : decode b_Runner_doTest 48 = .ok (.invokevirtual 130, 3) := by decide +kernel
theorem d_Runner_doTest_51 : decode b_Runner_doTest 51 = .ok (.iinc 3 1, 3) := by decide +kernel
theorem d_Runner_doTest_54 : decode b_Runner_doTest 54 = .ok (.goto (-52), 3) := by decide +kernel
theorem d_Runner_doTest_57 : decode b_Runner_doTest 57 = .ok (.return_, 1) := by decide +kernel
theorem d_Runner_doRound_0 : decode b_Runner_doRound 0 = .ok (.aload_n 0, 1) := by decide +kernel
theorem d_Runner_doRound_1 : decode b_Runner_doRound 1 = .ok (.getfield 9, 3) := by decide +kernel
theorem d_Runner_doRound_4 : decode b_Runner_doRound 4 = .ok (.iload_n 1, 1) := by decide +kernel
theorem d_Runner_doRound_5 : decode b_Runner_doRound 5 = .ok (.invokevirtual 133, 3) := by decide +kernel
theorem d_Runner_doRound_8 : decode b_Runner_doRound 8 = .ok (.istore 4, 2) := by decide +kernel
theorem d_Runner_doRound_10 : decode b_Runner_doRound 10 = .ok (.aload_n 0, 1) := by decide +kernel
theorem d_Runner_doRound_11 : decode b_Runner_doRound 11 = .ok (.getfield 9, 3) := by decide +kernel
theorem d_Runner_doRound_14 : decode b_Runner_doRound 14 = .ok (.iload_n 1, 1) := by decide +kernel
theorem d_Runner_doRound_15 : decode b_Runner_doRound 15 = .ok (.invokevirtual 136, 3) := by decide +kernel
theorem d_Runner_doRound_18 : decode b_Runner_doRound 18 = .ok (.istore 5, 2) := by decide +kernel
theorem d_Runner_doRound_20 : decode b_Runner_doRound 20 = .ok (.aload_n 0, 1) := by decide +kernel
theorem d_Runner_doRound_21 : decode b_Runner_doRound 21 = .ok (.getfield 9, 3) := by decide +kernel
theorem d_Runner_doRound_24 : decode b_Runner_doRound 24 = .ok (.iload 4, 2) := by decide +kernel
theorem d_Runner_doRound_26 : decode b_Runner_doRound 26 = .ok (.aload_n 0, 1) := by decide +kernel
theorem d_Runner_doRound_27 : decode b_Runner_doRound 27 = .ok (.getfield 34, 3) := by decide +kernel
theorem d_Runner_doRound_30 : decode b_Runner_doRound 30 = .ok (.invokevirtual 139, 3) := by decide +kernel
theorem d_Runner_doRound_33 : decode b_Runner_doRound 33 = .ok (.aload_n 0, 1) := by decide +kernel
theorem d_Runner_doRound_34 : decode b_Runner_doRound 34 = .ok (.getfield 23, 3) := by decide +kernel
theorem d_Runner_doRound_37 : decode b_Runner_doRound 37 = .ok (.iload_n 1, 1) := by decide +kernel
theorem d_Runner_doRound_38 : decode b_Runner_doRound 38 = .ok (.iload_n 2, 1) := by decide +kernel
theorem d_Runner_doRound_39 : decode b_Runner_doRound 39 = .ok (.aload_n 0, 1) := by decide +kernel
theorem d_Runner_doRound_40 : decode b_Runner_doRound 40 = .ok (.getfield 45, 3) := by decide +kernel
theorem d_Runner_doRound_43 : decode b_Runner_doRound 43 = .ok (.invokevirtual 93, 3) := by decide +kernel
theorem d_Runner_doRound_46 : decode b_Runner_doRound 46 = .ok (.aload_n 0, 1) := by decide +kernel
theorem d_Runner_doRound_47 : decode b_Runner_doRound 47 = .ok (.iload 5, 2) := by decide +kernel
theorem d_Runner_doRound_49 : decode b_Runner_doRound 49 = .ok (.invokevirtual 143, 3) := by decide +kernel
theorem d_Runner_doRound_52 : decode b_Runner_doRound 52 = .ok (.aload_n 3, 1) := by decide +kernel
theorem d_Runner_doRound_53 : decode b_Runner_doRound 53 = .ok (.invokevirtual 103, 3) := by decide +kernel
theorem d_Runner_doRound_56 : decode b_Runner_doRound 56 = .ok (.aload_n 0, 1) := by decide +kernel
theorem d_Runner_doRound_57 : decode b_Runner_doRound 57 = .ok (.iload 5, 2) := by decide +kernel
theorem d_Runner_doRound_59 : decode b_Runner_doRound 59 = .ok (.aload_n 3, 1) := by decide +kernel
theorem d_Runner_doRound_60 : decode b_Runner_doRound 60 = .ok (.invokevirtual 146, 3) := by decide +kernel
theorem d_Runner_doRound_63 : decode b_Runner_doRound 63 = .ok (.istore 6, 2) := by decide +kernel
theorem d_Runner_doRound_65 : decode b_Runner_doRound 65 = .ok (.aload_n 3, 1) := by decide +kernel
theorem d_Runner_doRound_66 : decode b_Runner_doRound 66 = .ok (.invokevirtual 110, 3) := by decide +kernel
theorem d_Runner_doRound_69 : decode b_Runner_doRound 69 = .ok (.ifCond .eq 12, 3) := by decide +kernel
theorem d_Runner_doRound_72 : decode b_Runner_doRound 72 = .ok (.aload_n 0, 1) := by decide +kernel
theorem d_Runner_doRound_73 : decode b_Runner_doRound 73 = .ok (.iload_n 1, 1) := by decide +kernel
theorem d_Runner_doRound_74 : decode b_Runner_doRound 74 = .ok (.iconst 4, 1) := by decide +kernel
theorem d_Runner_doRound_75 : decode b_Runner_doRound 75 = .ok (.iload_n 2, 1) := by decide +kernel
theorem d_Runner_doRound_76 : decode b_Runner_doRound 76 = .ok (.iadd, 1) := by decide +kernel
theorem d_Runner_doRound_77 : decode b_Runner_doRound 77 = .ok (.aload_n 3, 1) := by decide +kernel
theorem d_Runner_doRound_78 : decode b_Runner_doRound 78 = .ok (.invokevirtual 106, 3) := by decide +kernel
theorem d_Runner_doRound_81 : decode b_Runner_doRound 81 = .ok (.aload_n 0, 1) := by decide +kernel
theorem d_Runner_doRound_82 : decode b_Runner_doRound 82 = .ok (.iload 6, 2) := by decide +kernel
theorem d_Runner_doRound_84 : decode b_Runner_doRound 84 = .ok (.aload_n 3, 1) := by decide +kernel
theorem d_Runner_doRound_85 : decode b_Runner_doRound 85 = .ok (.invokevirtual 150, 3) := by decide +kernel
theorem d_Runner_doRound_88 : decode b_Runner_doRound 88 = .ok (.aload_n 0, 1) := by decide +kernel
theorem d_Runner_doRound_89 : decode b_Runner_doRound 89 = .ok (.getfield 23, 3) := by decide +kernel
theorem d_Runner_doRound_92 : decode b_Runner_doRound 92 = .ok (.iload_n 1, 1) := by decide +kernel
theorem d_Runner_doRound_93 : decode b_Runner_doRound 93 = .ok (.iload_n 2, 1) := by decide +kernel
theorem d_Runner_doRound_94 : decode b_Runner_doRound 94 = .ok (.aload_n 0, 1) := by decide +kernel
theorem d_Runner_doRound_95 : decode b_Runner_doRound 95 = .ok (.getfield 45, 3) := by decide +kernel
theorem d_Runner_doRound_98 : decode b_Runner_doRound 98 = .ok (.aload_n 3, 1) := by decide +kernel
theorem d_Runner_doRound_99 : decode b_Runner_doRound 99 = .ok (.aload_n 0, 1) := by decide +kernel
theorem d_Runner_doRound_100 : decode b_Runner_doRound 100 = .ok (.getfield 38, 3) := by decide +kernel
theorem d_Runner_doRound_103 : decode b_Runner_doRound 103 = .ok (.iload 4, 2) := by decide +kernel
theorem d_Runner_doRound_105 : decode b_Runner_doRound 105 = .ok (.iaload, 1) := by decide +kernel
theorem d_Runner_doRound_106 : decode b_Runner_doRound 106 = .ok (.invokevirtual 154, 3) := by decide +kernel
theorem d_Runner_doRound_109 : decode b_Runner_doRound 109 = .ok (.return_, 1) := by decide +kernel
theorem d_Runner_makeRoundInstances_0 : decode b_Runner_makeRoundInstances 0 = .ok (.iconst 0, 1) := by decide +kernel
theorem d_Runner_makeRoundInstances_1 : decode b_Runner_makeRoundInstances 1 = .ok (.istore_n 2, 1) := by decide +kernel
theorem d_Runner_makeRoundInstances_2 : decode b_Runner_makeRoundInstances 2 = .ok (.iload_n 2, 1) := by decide +kernel
theorem d_Runner_makeRoundInstances_3 : decode b_Runner_makeRoundInstances 3 = .ok (.iload_n 1, 1) := by decide +kernel
theorem d_Runner_makeRoundInstances_4 : decode b_Runner_makeRoundInstances 4 = .ok (.if_icmp .ge 35, 3) := by decide +kernel
theorem d_Runner_makeRoundInstances_7 : decode b_Runner_makeRoundInstances 7 = .ok (.aload_n 0, 1) := by decide +kernel
theorem d_Runner_makeRoundInstances_8 : decode b_Runner_makeRoundInstances 8 = .ok (.getfield 9, 3) := by decide +kernel
theorem d_Runner_makeRoundInstances_11 : decode b_Runner_makeRoundInstances 11 = .ok (.aload_n 0, 1) := by decide +kernel
theorem d_Runner_makeRoundInstances_12 : decode b_Runner_makeRoundInstances 12 = .ok (.getfield 34, 3) := by decide +kernel
theorem d_Runner_makeRoundInstances_15 : decode b_Runner_makeRoundInstances 15 = .ok (.iload_n 2, 1) := by decide +kernel
theorem d_Runner_makeRoundInstances_16 : decode b_Runner_makeRoundInstances 16 = .ok (.iaload, 1) := by decide +kernel
theorem d_Runner_makeRoundInstances_17 : decode b_Runner_makeRoundInstances 17 = .ok (.invokevirtual 96, 3) := by decide +kernel
theorem d_Runner_makeRoundInstances_20 : decode b_Runner_makeRoundInstances 20 = .ok (.ifCond .ne 13, 3) := by decide +kernel
theorem d_Runner_makeRoundInstances_23 : decode b_Runner_makeRoundInstances 23 = .ok (.aload_n 0, 1) := by decide +kernel
theorem d_Runner_makeRoundInstances_24 : decode b_Runner_makeRoundInstances 24 = .ok (.aload_n 0, 1) := by decide +kernel
theorem d_Runner_makeRoundInstances_25 : decode b_Runner_makeRoundInstances 25 = .ok (.getfield 34, 3) := by decide +kernel
theorem d_Runner_makeRoundInstances_28 : decode b_Runner_makeRoundInstances 28 = .ok (.iload_n 2, 1) := by decide +kernel
theorem d_Runner_makeRoundInstances_29 : decode b_Runner_makeRoundInstances 29 = .ok (.iaload, 1) := by decide +kernel
theorem d_Runner_makeRoundInstances_30 : decode b_Runner_makeRoundInstances 30 = .ok (.invokevirtual 99, 3) := by decide +kernel
theorem d_Runner_makeRoundInstances_33 : decode b_Runner_makeRoundInstances 33 = .ok (.iinc 2 1, 3) := by decide +kernel
theorem d_Runner_makeRoundInstances_36 : decode b_Runner_makeRoundInstances 36 = .ok (.goto (-34), 3) := by decide +kernel
theorem d_Runner_makeRoundInstances_39 : decode b_Runner_makeRoundInstances 39 = .ok (.return_, 1) := by decide +kernel
theorem d_Runner_openEach_0 : decode b_Runner_openEach 0 = .ok (.iconst 0, 1) := by decide +kernel
theorem d_Runner_openEach_1 : decode b_Runner_openEach 1 = .ok (.istore_n 3, 1) := by decide +kernel
theorem d_Runner_openEach_2 : decode b_Runner_openEach 2 = .ok (.iload_n 3, 1) := by decide +kernel
theorem d_Runner_openEach_3 : decode b_Runner_openEach 3 = .ok (.iload_n 1, 1) := by decide +kernel
theorem d_Runner_openEach_4 : decode b_Runner_openEach 4 = .ok (.if_icmp .ge 28, 3) := by decide +kernel
theorem d_Runner_openEach_7 : decode b_Runner_openEach 7 = .ok (.aload_n 2, 1) := by decide +kernel
theorem d_Runner_openEach_8 : decode b_Runner_openEach 8 = .ok (.invokevirtual 110, 3) := by decide +kernel
theorem d_Runner_openEach_11 : decode b_Runner_openEach 11 = .ok (.ifCond .eq 21, 3) := by decide +kernel
theorem d_Runner_openEach_14 : decode b_Runner_openEach 14 = .ok (.aload_n 0, 1) := by decide +kernel
theorem d_Runner_openEach_15 : decode b_Runner_openEach 15 = .ok (.aload_n 0, 1) := by decide +kernel
theorem d_Runner_openEach_16 : decode b_Runner_openEach 16 = .ok (.getfield 34, 3) := by decide +kernel
theorem d_Runner_openEach_19 : decode b_Runner_openEach 19 = .ok (.iload_n 3, 1) := by decide +kernel
theorem d_Runner_openEach_20 : decode b_Runner_openEach 20 = .ok (.iaload, 1) := by decide +kernel
theorem d_Runner_openEach_21 : decode b_Runner_openEach 21 = .ok (.iconst 1, 1) := by decide +kernel
theorem d_Runner_openEach_22 : decode b_Runner_openEach 22 = .ok (.aload_n 2, 1) := by decide +kernel
theorem d_Runner_openEach_23 : decode b_Runner_openEach 23 = .ok (.invokevirtual 106, 3) := by decide +kernel
theorem d_Runner_openEach_26 : decode b_Runner_openEach 26 = .ok (.iinc 3 1, 3) := by decide +kernel
theorem d_Runner_openEach_29 : decode b_Runner_openEach 29 = .ok (.goto (-27), 3) := by decide +kernel
theorem d_Runner_openEach_32 : decode b_Runner_openEach 32 = .ok (.iload_n 3, 1) := by decide +kernel
theorem d_Runner_openEach_33 : decode b_Runner_openEach 33 = .ok (.ireturn, 1) := by decide +kernel
theorem d_Runner_closeEach_0 : decode b_Runner_closeEach 0 = .ok (.iload_n 1, 1) := by decide +kernel
theorem d_Runner_closeEach_1 : decode b_Runner_closeEach 1 = .ok (.iconst 1, 1) := by decide +kernel
theorem d_Runner_closeEach_2 : decode b_Runner_closeEach 2 = .ok (.isub, 1) := by decide +kernel
theorem d_Runner_closeEach_3 : decode b_Runner_closeEach 3 = .ok (.istore_n 3, 1) := by decide +kernel
theorem d_Runner_closeEach_4 : decode b_Runner_closeEach 4 = .ok (.iload_n 3, 1) := by decide +kernel
theorem d_Runner_closeEach_5 : decode b_Runner_closeEach 5 = .ok (.ifCond .lt 21, 3) := by decide +kernel
theorem d_Runner_closeEach_8 : decode b_Runner_closeEach 8 = .ok (.aload_n 0, 1) := by decide +kernel
theorem d_Runner_closeEach_9 : decode b_Runner_closeEach 9 = .ok (.aload_n 0, 1) := by decide +kernel
theorem d_Runner_closeEach_10 : decode b_Runner_closeEach 10 = .ok (.getfield 34, 3) := by decide +kernel
theorem d_Runner_closeEach_13 : decode b_Runner_closeEach 13 = .ok (.iload_n 3, 1) := by decide +kernel
theorem d_Runner_closeEach_14 : decode b_Runner_closeEach 14 = .ok (.iaload, 1) := by decide +kernel
theorem d_Runner_closeEach_15 : decode b_Runner_closeEach 15 = .ok (.iconst 2, 1) := by decide +kernel
theorem d_Runner_closeEach_16 : decode b_Runner_closeEach 16 = .ok (.aload_n 2, 1) := by decide +kernel
theorem d_Runner_closeEach_17 : decode b_Runner_closeEach 17 = .ok (.invokevirtual 106, 3) := by decide +kernel
theorem d_Runner_closeEach_20 : decode b_Runner_closeEach 20 = .ok (.iinc 3 (-1), 3) := by decide +kernel
theorem d_Runner_closeEach_23 : decode b_Runner_closeEach 23 = .ok (.goto (-19), 3) := by decide +kernel
theorem d_Runner_closeEach_26 : decode b_Runner_closeEach 26 = .ok (.return_, 1) := by decide +kernel
theorem d_Runner_makeInstance_0 : decode b_Runner_makeInstance 0 = .ok (.aload_n 0, 1) := by decide +kernel
theorem d_Runner_makeInstance_1 : decode b_Runner_makeInstance 1 = .ok (.dup, 1) := by decide +kernel
theorem d_Runner_makeInstance_2 : decode b_Runner_makeInstance 2 = .ok (.getfield 41, 3) := by decide +kernel
theorem d_Runner_makeInstance_5 : decode b_Runner_makeInstance 5 = .ok (.iconst 1, 1) := by decide +kernel
theorem d_Runner_makeInstance_6 : decode b_Runner_makeInstance 6 = .ok (.iadd, 1) := by decide +kernel
theorem d_Runner_makeInstance_7 : decode b_Runner_makeInstance 7 = .ok (.putfield 41, 3) := by decide +kernel
theorem d_Runner_makeInstance_10 : decode b_Runner_makeInstance 10 = .ok (.aload_n 0, 1) := by decide +kernel
theorem d_Runner_makeInstance_11 : decode b_Runner_makeInstance 11 = .ok (.getfield 38, 3) := by decide +kernel
theorem d_Runner_makeInstance_14 : decode b_Runner_makeInstance 14 = .ok (.iload_n 1, 1) := by decide +kernel
theorem d_Runner_makeInstance_15 : decode b_Runner_makeInstance 15 = .ok (.aload_n 0, 1) := by decide +kernel
theorem d_Runner_makeInstance_16 : decode b_Runner_makeInstance 16 = .ok (.getfield 41, 3) := by decide +kernel
theorem d_Runner_makeInstance_19 : decode b_Runner_makeInstance 19 = .ok (.iastore, 1) := by decide +kernel
theorem d_Runner_makeInstance_20 : decode b_Runner_makeInstance 20 = .ok (.return_, 1) := by decide +kernel
theorem d_Runner_callIfThere_0 : decode b_Runner_callIfThere 0 = .ok (.iload_n 1, 1) := by decide +kernel
theorem d_Runner_callIfThere_1 : decode b_Runner_callIfThere 1 = .ok (.iload_n 2, 1) := by decide +kernel
theorem d_Runner_callIfThere_2 : decode b_Runner_callIfThere 2 = .ok (.invokestatic 158, 3) := by decide +kernel
theorem d_Runner_callIfThere_5 : decode b_Runner_callIfThere 5 = .ok (.istore 4, 2) := by decide +kernel
theorem d_Runner_callIfThere_7 : decode b_Runner_callIfThere 7 = .ok (.aload_n 0, 1) := by decide +kernel
theorem d_Runner_callIfThere_8 : decode b_Runner_callIfThere 8 = .ok (.getfield 15, 3) := by decide +kernel
theorem d_Runner_callIfThere_11 : decode b_Runner_callIfThere 11 = .ok (.iload 4, 2) := by decide +kernel
theorem d_Runner_callIfThere_13 : decode b_Runner_callIfThere 13 = .ok (.invokevirtual 163, 3) := by decide +kernel
theorem d_Runner_callIfThere_16 : decode b_Runner_callIfThere 16 = .ok (.ifCond .ne 4, 3) := by decide +kernel
theorem d_Runner_callIfThere_19 : decode b_Runner_callIfThere 19 = .ok (.return_, 1) := by decide +kernel
theorem d_Runner_callIfThere_20 : decode b_Runner_callIfThere 20 = .ok (.aload_n 0, 1) := by decide +kernel
theorem d_Runner_callIfThere_21 : decode b_Runner_callIfThere 21 = .ok (.dup, 1) := by decide +kernel
theorem d_Runner_callIfThere_22 : decode b_Runner_callIfThere 22 = .ok (.getfield 48, 3) := by decide +kernel
theorem d_Runner_callIfThere_25 : decode b_Runner_callIfThere 25 = .ok (.iconst 1, 1) := by decide +kernel
theorem d_Runner_callIfThere_26 : decode b_Runner_callIfThere 26 = .ok (.iadd, 1) := by decide +kernel
theorem d_Runner_callIfThere_27 : decode b_Runner_callIfThere 27 = .ok (.putfield 48, 3) := by decide +kernel
theorem d_Runner_callIfThere_30 : decode b_Runner_callIfThere 30 = .ok (.aload_n 0, 1) := by decide +kernel
theorem d_Runner_callIfThere_31 : decode b_Runner_callIfThere 31 = .ok (.getfield 15, 3) := by decide +kernel
theorem d_Runner_callIfThere_34 : decode b_Runner_callIfThere 34 = .ok (.iload 4, 2) := by decide +kernel
theorem d_Runner_callIfThere_36 : decode b_Runner_callIfThere 36 = .ok (.invokevirtual 166, 3) := by decide +kernel
theorem d_Runner_callIfThere_39 : decode b_Runner_callIfThere 39 = .ok (.istore 5, 2) := by decide +kernel
theorem d_Runner_callIfThere_41 : decode b_Runner_callIfThere 41 = .ok (.iload_n 2, 1) := by decide +kernel
theorem d_Runner_callIfThere_42 : decode b_Runner_callIfThere 42 = .ok (.iconst 4, 1) := by decide +kernel
theorem d_Runner_callIfThere_43 : decode b_Runner_callIfThere 43 = .ok (.if_icmp .lt 41, 3) := by decide +kernel
theorem d_Runner_callIfThere_46 : decode b_Runner_callIfThere 46 = .ok (.iload 5, 2) := by decide +kernel
theorem d_Runner_callIfThere_48 : decode b_Runner_callIfThere 48 = .ok (.aload_n 0, 1) := by decide +kernel
theorem d_Runner_callIfThere_49 : decode b_Runner_callIfThere 49 = .ok (.getfield 9, 3) := by decide +kernel
theorem d_Runner_callIfThere_52 : decode b_Runner_callIfThere 52 = .ok (.iload_n 1, 1) := by decide +kernel
theorem d_Runner_callIfThere_53 : decode b_Runner_callIfThere 53 = .ok (.invokevirtual 169, 3) := by decide +kernel
theorem d_Runner_callIfThere_56 : decode b_Runner_callIfThere 56 = .ok (.if_icmp .le 28, 3) := by decide +kernel
theorem d_Runner_callIfThere_59 : decode b_Runner_callIfThere 59 = .ok (.aload_n 0, 1) := by decide +kernel
theorem d_Runner_callIfThere_60 : decode b_Runner_callIfThere 60 = .ok (.dup, 1) := by decide +kernel
theorem d_Runner_callIfThere_61 : decode b_Runner_callIfThere 61 = .ok (.getfield 45, 3) := by decide +kernel
theorem d_Runner_callIfThere_64 : decode b_Runner_callIfThere 64 = .ok (.aload_n 0, 1) := by decide +kernel
theorem d_Runner_callIfThere_65 : decode b_Runner_callIfThere 65 = .ok (.getfield 9, 3) := by decide +kernel
theorem d_Runner_callIfThere_68 : decode b_Runner_callIfThere 68 = .ok (.iload_n 1, 1) := by decide +kernel
theorem d_Runner_callIfThere_69 : decode b_Runner_callIfThere 69 = .ok (.invokevirtual 169, 3) := by decide +kernel
theorem d_Runner_callIfThere_72 : decode b_Runner_callIfThere 72 = .ok (.iadd, 1) := by decide +kernel
theorem d_Runner_callIfThere_73 : decode b_Runner_callIfThere 73 = .ok (.putfield 45, 3) := by decide +kernel
theorem d_Runner_callIfThere_76 : decode b_Runner_callIfThere 76 = .ok (.aload_n 3, 1) := by decide +kernel
theorem d_Runner_callIfThere_77 : decode b_Runner_callIfThere 77 = .ok (.bipush 100, 2) := by decide +kernel
theorem d_Runner_callIfThere_79 : decode b_Runner_callIfThere 79 = .ok (.iconst 0, 1) := by decide +kernel
theorem d_Runner_callIfThere_80 : decode b_Runner_callIfThere 80 = .ok (.invokevirtual 172, 3) := by decide +kernel
theorem d_Runner_callIfThere_83 : decode b_Runner_callIfThere 83 = .ok (.return_, 1) := by decide +kernel
theorem d_Runner_callIfThere_84 : decode b_Runner_callIfThere 84 = .ok (.aload_n 0, 1) := by decide +kernel
theorem d_Runner_callIfThere_85 : decode b_Runner_callIfThere 85 = .ok (.dup, 1) := by decide +kernel
theorem d_Runner_callIfThere_86 : decode b_Runner_callIfThere 86 = .ok (.getfield 45, 3) := by decide +kernel
theorem d_Runner_callIfThere_89 : decode b_Runner_callIfThere 89 = .ok (.iload 5, 2) := by decide +kernel
theorem d_Runner_callIfThere_91 : decode b_Runner_callIfThere 91 = .ok (.iadd, 1) := by decide +kernel
theorem d_Runner_callIfThere_92 : decode b_Runner_callIfThere 92 = .ok (.putfield 45, 3) := by decide +kernel
theorem d_Runner_callIfThere_95 : decode b_Runner_callIfThere 95 = .ok (.aload_n 0, 1) := by decide +kernel
theorem d_Runner_callIfThere_96 : decode b_Runner_callIfThere 96 = .ok (.getfield 15, 3) := by decide +kernel
theorem d_Runner_callIfThere_99 : decode b_Runner_callIfThere 99 = .ok (.iload 4, 2) := by decide +kernel
theorem d_Runner_callIfThere_101 : decode b_Runner_callIfThere 101 = .ok (.invokevirtual 176, 3) := by decide +kernel
theorem d_Runner_callIfThere_104 : decode b_Runner_callIfThere 104 = .ok (.istore 6, 2) := by decide +kernel
theorem d_Runner_callIfThere_106 : decode b_Runner_callIfThere 106 = .ok (.iload 6, 2) := by decide +kernel
theorem d_Runner_callIfThere_108 : decode b_Runner_callIfThere 108 = .ok (.ifCond .eq 27, 3) := by decide +kernel
theorem d_Runner_callIfThere_111 : decode b_Runner_callIfThere 111 = .ok (.aload_n 3, 1) := by decide +kernel
theorem d_Runner_callIfThere_112 : decode b_Runner_callIfThere 112 = .ok (.aload_n 0, 1) := by decide +kernel
theorem d_Runner_callIfThere_113 : decode b_Runner_callIfThere 113 = .ok (.getfield 15, 3) := by decide +kernel
theorem d_Runner_callIfThere_116 : decode b_Runner_callIfThere 116 = .ok (.iload 4, 2) := by decide +kernel
theorem d_Runner_callIfThere_118 : decode b_Runner_callIfThere 118 = .ok (.invokevirtual 179, 3) := by decide +kernel
theorem d_Runner_callIfThere_121 : decode b_Runner_callIfThere 121 = .ok (.iload 6, 2) := by decide +kernel
theorem d_Runner_callIfThere_123 : decode b_Runner_callIfThere 123 = .ok (.iconst 2, 1) := by decide +kernel
theorem d_Runner_callIfThere_124 : decode b_Runner_callIfThere 124 = .ok (.if_icmp .ne 7, 3) := by decide +kernel
theorem d_Runner_callIfThere_127 : decode b_Runner_callIfThere 127 = .ok (.iconst 1, 1) := by decide +kernel
theorem d_Runner_callIfThere_128 : decode b_Runner_callIfThere 128 = .ok (.goto 4, 3) := by decide +kernel
theorem d_Runner_callIfThere_131 : decode b_Runner_callIfThere 131 = .ok (.iconst 0, 1) := by decide +kernel
theorem d_Runner_callIfThere_132 : decode b_Runner_callIfThere 132 = .ok (.invokevirtual 172, 3) := by decide +kernel
theorem d_Runner_callIfThere_135 : decode b_Runner_callIfThere 135 = .ok (.return_, 1) := by decide +kernel
theorem d_Runner_instancesMade_0 : decode b_Runner_instancesMade 0 = .ok (.aload_n 0, 1) := by decide +kernel
theorem d_Runner_instancesMade_1 : decode b_Runner_instancesMade 1 = .ok (.getfield 41, 3) := by decide +kernel
theorem d_Runner_instancesMade_4 : decode b_Runner_instancesMade 4 = .ok (.ireturn, 1) := by decide +kernel
theorem d_Runner_time_0 : decode b_Runner_time 0 = .ok (.aload_n 0, 1) := by decide +kernel
theorem d_Runner_time_1 : decode b_Runner_time 1 = .ok (.getfield 45, 3) := by decide +kernel
theorem d_Runner_time_4 : decode b_Runner_time 4 = .ok (.ireturn, 1) := by decide +kernel
theorem d_Runner_calls_0 : decode b_Runner_calls 0 = .ok (.aload_n 0, 1) := by decide +kernel
theorem d_Runner_calls_1 : decode b_Runner_calls 1 = .ok (.getfield 48, 3) := by decide +kernel
theorem d_Runner_calls_4 : decode b_Runner_calls 4 = .ok (.ireturn, 1) := by decide +kernel
theorem d_Tree_init_0 : decode b_Tree_init 0 = .ok (.aload_n 0, 1) := by decide +kernel
theorem d_Tree_init_1 : decode b_Tree_init 1 = .ok (.invokespecial 3, 3) := by decide +kernel
theorem d_Tree_init_4 : decode b_Tree_init 4 = .ok (.aload_n 0, 1) := by decide +kernel
theorem d_Tree_init_5 : decode b_Tree_init 5 = .ok (.bipush 24, 2) := by decide +kernel
theorem d_Tree_init_7 : decode b_Tree_init 7 = .ok (.newarray .int, 2) := by decide +kernel
theorem d_Tree_init_9 : decode b_Tree_init 9 = .ok (.putfield 9, 3) := by decide +kernel
theorem d_Tree_init_12 : decode b_Tree_init 12 = .ok (.aload_n 0, 1) := by decide +kernel
theorem d_Tree_init_13 : decode b_Tree_init 13 = .ok (.bipush 24, 2) := by decide +kernel
theorem d_Tree_init_15 : decode b_Tree_init 15 = .ok (.newarray .int, 2) := by decide +kernel
theorem d_Tree_init_17 : decode b_Tree_init 17 = .ok (.putfield 15, 3) := by decide +kernel
theorem d_Tree_init_20 : decode b_Tree_init 20 = .ok (.aload_n 0, 1) := by decide +kernel
theorem d_Tree_init_21 : decode b_Tree_init 21 = .ok (.bipush 24, 2) := by decide +kernel
theorem d_Tree_init_23 : decode b_Tree_init 23 = .ok (.newarray .int, 2) := by decide +kernel
theorem d_Tree_init_25 : decode b_Tree_init 25 = .ok (.putfield 18, 3) := by decide +kernel
theorem d_Tree_init_28 : decode b_Tree_init 28 = .ok (.aload_n 0, 1) := by decide +kernel
theorem d_Tree_init_29 : decode b_Tree_init 29 = .ok (.bipush 24, 2) := by decide +kernel
theorem d_Tree_init_31 : decode b_Tree_init 31 = .ok (.newarray .int, 2) := by decide +kernel
theorem d_Tree_init_33 : decode b_Tree_init 33 = .ok (.putfield 21, 3) := by decide +kernel
theorem d_Tree_init_36 : decode b_Tree_init 36 = .ok (.aload_n 0, 1) := by decide +kernel
theorem d_Tree_init_37 : decode b_Tree_init 37 = .ok (.bipush 24, 2) := by decide +kernel
theorem d_Tree_init_39 : decode b_Tree_init 39 = .ok (.newarray .boolean, 2) := by decide +kernel
theorem d_Tree_init_41 : decode b_Tree_init 41 = .ok (.putfield 24, 3) := by decide +kernel
theorem d_Tree_init_44 : decode b_Tree_init 44 = .ok (.aload_n 0, 1) := by decide +kernel
theorem d_Tree_init_45 : decode b_Tree_init 45 = .ok (.bipush 24, 2) := by decide +kernel
theorem d_Tree_init_47 : decode b_Tree_init 47 = .ok (.newarray .boolean, 2) := by decide +kernel
theorem d_Tree_init_49 : decode b_Tree_init 49 = .ok (.putfield 28, 3) := by decide +kernel
theorem d_Tree_init_52 : decode b_Tree_init 52 = .ok (.aload_n 0, 1) := by decide +kernel
theorem d_Tree_init_53 : decode b_Tree_init 53 = .ok (.bipush 24, 2) := by decide +kernel
theorem d_Tree_init_55 : decode b_Tree_init 55 = .ok (.newarray .int, 2) := by decide +kernel
theorem d_Tree_init_57 : decode b_Tree_init 57 = .ok (.putfield 31, 3) := by decide +kernel
theorem d_Tree_init_60 : decode b_Tree_init 60 = .ok (.aload_n 0, 1) := by decide +kernel
theorem d_Tree_init_61 : decode b_Tree_init 61 = .ok (.bipush 24, 2) := by decide +kernel
theorem d_Tree_init_63 : decode b_Tree_init 63 = .ok (.newarray .int, 2) := by decide +kernel
theorem d_Tree_init_65 : decode b_Tree_init 65 = .ok (.putfield 34, 3) := by decide +kernel
theorem d_Tree_init_68 : decode b_Tree_init 68 = .ok (.aload_n 0, 1) := by decide +kernel
theorem d_Tree_init_69 : decode b_Tree_init 69 = .ok (.getfield 9, 3) := by decide +kernel
theorem d_Tree_init_72 : decode b_Tree_init 72 = .ok (.iconst 0, 1) := by decide +kernel
theorem d_Tree_init_73 : decode b_Tree_init 73 = .ok (.iconst (-1), 1) := by decide +kernel
theorem d_Tree_init_74 : decode b_Tree_init 74 = .ok (.iastore, 1) := by decide +kernel
theorem d_Tree_init_75 : decode b_Tree_init 75 = .ok (.aload_n 0, 1) := by decide +kernel
theorem d_Tree_init_76 : decode b_Tree_init 76 = .ok (.iconst 1, 1) := by decide +kernel
theorem d_Tree_init_77 : decode b_Tree_init 77 = .ok (.putfield 37, 3) := by decide +kernel
theorem d_Tree_init_80 : decode b_Tree_init 80 = .ok (.return_, 1) := by decide +kernel
theorem d_Tree_size_0 : decode b_Tree_size 0 = .ok (.aload_n 0, 1) := by decide +kernel
theorem d_Tree_size_1 : decode b_Tree_size 1 = .ok (.getfield 37, 3) := by decide +kernel
theorem d_Tree_size_4 : decode b_Tree_size 4 = .ok (.ireturn, 1) := by decide +kernel
theorem d_Tree_isFull_0 : decode b_Tree_isFull 0 = .ok (.aload_n 0, 1) := by decide +kernel
theorem d_Tree_isFull_1 : decode b_Tree_isFull 1 = .ok (.getfield 37, 3) := by decide +kernel
theorem d_Tree_isFull_4 : decode b_Tree_isFull 4 = .ok (.bipush 24, 2) := by decide +kernel
theorem d_Tree_isFull_6 : decode b_Tree_isFull 6 = .ok (.if_icmp .lt 7, 3) := by decide +kernel
theorem d_Tree_isFull_9 : decode b_Tree_isFull 9 = .ok (.iconst 1, 1) := by decide +kernel
theorem d_Tree_isFull_10 : decode b_Tree_isFull 10 = .ok (.goto 4, 3) := by decide +kernel
theorem d_Tree_isFull_13 : decode b_Tree_isFull 13 = .ok (.iconst 0, 1) := by decide +kernel
theorem d_Tree_isFull_14 : decode b_Tree_isFull 14 = .ok (.ireturn, 1) := by decide +kernel
theorem d_Tree_isNode_0 : decode b_Tree_isNode 0 = .ok (.iload_n 1, 1) := by decide +kernel
theorem d_Tree_isNode_1 : decode b_Tree_isNode 1 = .ok (.iconst 0, 1) := by decide +kernel
theorem d_Tree_isNode_2 : decode b_Tree_isNode 2 = .ok (.aload_n 0, 1) := by decide +kernel
theorem d_Tree_isNode_3 : decode b_Tree_isNode 3 = .ok (.getfield 37, 3) := by decide +kernel
theorem d_Tree_isNode_6 : decode b_Tree_isNode 6 = .ok (.iconst 1, 1) := by decide +kernel
theorem d_Tree_isNode_7 : decode b_Tree_isNode 7 = .ok (.isub, 1) := by decide +kernel
theorem d_Tree_isNode_8 : decode b_Tree_isNode 8 = .ok (.invokestatic 41, 3) := by decide +kernel
theorem d_Tree_isNode_11 : decode b_Tree_isNode 11 = .ok (.ireturn, 1) := by decide +kernel
theorem d_Tree_isContainer_0 : decode b_Tree_isContainer 0 = .ok (.aload_n 0, 1) := by decide +kernel
theorem d_Tree_isContainer_1 : decode b_Tree_isContainer 1 = .ok (.iload_n 1, 1) := by decide +kernel
theorem d_Tree_isContainer_2 : decode b_Tree_isContainer 2 = .ok (.invokevirtual 45, 3) := by decide +kernel
theorem d_Tree_isContainer_5 : decode b_Tree_isContainer 5 = .ok (.ifCond .eq 16, 3) := by decide +kernel
theorem d_Tree_isContainer_8 : decode b_Tree_isContainer 8 = .ok (.aload_n 0, 1) := by decide +kernel
theorem d_Tree_isContainer_9 : decode b_Tree_isContainer 9 = .ok (.getfield 31, 3) := by decide +kernel
theorem d_Tree_isContainer_12 : decode b_Tree_isContainer 12 = .ok (.iload_n 1, 1) := by decide +kernel
theorem d_Tree_isContainer_13 : decode b_Tree_isContainer 13 = .ok (.iaload, 1) := by decide +kernel
theorem d_Tree_isContainer_14 : decode b_Tree_isContainer 14 = .ok (.ifCond .ne 7, 3) := by decide +kernel
theorem d_Tree_isContainer_17 : decode b_Tree_isContainer 17 = .ok (.iconst 1, 1) := by decide +kernel
theorem d_Tree_isContainer_18 : decode b_Tree_isContainer 18 = .ok (.goto 4, 3) := by decide +kernel
theorem d_Tree_isContainer_21 : decode b_Tree_isContainer 21 = .ok (.iconst 0, 1) := by decide +kernel
theorem d_Tree_isContainer_22 : decode b_Tree_isContainer 22 = .ok (.ireturn, 1) := by decide +kernel
theorem d_Tree_mayHave_0 : decode b_Tree_mayHave 0 = .ok (.aload_n 0, 1) := by decide +kernel
theorem d_Tree_mayHave_1 : decode b_Tree_mayHave 1 = .ok (.iload_n 1, 1) := by decide +kernel
theorem d_Tree_mayHave_2 : decode b_Tree_mayHave 2 = .ok (.invokevirtual 45, 3) := by decide +kernel
theorem d_Tree_mayHave_5 : decode b_Tree_mayHave 5 = .ok (.ifCond .ne 5, 3) := by decide +kernel
theorem d_Tree_mayHave_8 : decode b_Tree_mayHave 8 = .ok (.iconst 0, 1) := by decide +kernel
theorem d_Tree_mayHave_9 : decode b_Tree_mayHave 9 = .ok (.ireturn, 1) := by decide +kernel
theorem d_Tree_mayHave_10 : decode b_Tree_mayHave 10 = .ok (.aload_n 0, 1) := by decide +kernel
theorem d_Tree_mayHave_11 : decode b_Tree_mayHave 11 = .ok (.getfield 31, 3) := by decide +kernel
theorem d_Tree_mayHave_14 : decode b_Tree_mayHave 14 = .ok (.iload_n 1, 1) := by decide +kernel
theorem d_Tree_mayHave_15 : decode b_Tree_mayHave 15 = .ok (.iaload, 1) := by decide +kernel
theorem d_Tree_mayHave_16 : decode b_Tree_mayHave 16 = .ok (.ifCond .ne 10, 3) := by decide +kernel
theorem d_Tree_mayHave_19 : decode b_Tree_mayHave 19 = .ok (.iload_n 2, 1) := by decide +kernel
theorem d_Tree_mayHave_20 : decode b_Tree_mayHave 20 = .ok (.iconst 0, 1) := by decide +kernel
theorem d_Tree_mayHave_21 : decode b_Tree_mayHave 21 = .ok (.iconst 3, 1) := by decide +kernel
theorem d_Tree_mayHave_22 : decode b_Tree_mayHave 22 = .ok (.invokestatic 41, 3) := by decide +kernel
theorem d_Tree_mayHave_25 : decode b_Tree_mayHave 25 = .ok (.ireturn, 1) := by decide +kernel
theorem d_Tree_mayHave_26 : decode b_Tree_mayHave 26 = .ok (.iload_n 2, 1) := by decide +kernel
theorem d_Tree_mayHave_27 : decode b_Tree_mayHave 27 = .ok (.iconst 4, 1) := by decide +kernel
theorem d_Tree_mayHave_28 : decode b_Tree_mayHave 28 = .ok (.iconst 4, 1) := by decide +kernel
theorem d_Tree_mayHave_29 : decode b_Tree_mayHave 29 = .ok (.aload_n 0, 1) := by decide +kernel
theorem d_Tree_mayHave_30 : decode b_Tree_mayHave 30 = .ok (.getfield 31, 3) := by decide +kernel
theorem d_Tree_mayHave_33 : decode b_Tree_mayHave 33 = .ok (.iload_n 1, 1) := by decide +kernel
theorem d_Tree_mayHave_34 : decode b_Tree_mayHave 34 = .ok (.iaload, 1) := by decide +kernel
theorem d_Tree_mayHave_35 : decode b_Tree_mayHave 35 = .ok (.iadd, 1) := by decide +kernel
theorem d_Tree_mayHave_36 : decode b_Tree_mayHave 36 = .ok (.iconst 1, 1) := by decide +kernel
theorem d_Tree_mayHave_37 : decode b_Tree_mayHave 37 = .ok (.isub, 1) := by decide +kernel
theorem d_Tree_mayHave_38 : decode b_Tree_mayHave 38 = .ok (.invokestatic 41, 3) := by decide +kernel
theorem d_Tree_mayHave_41 : decode b_Tree_mayHave 41 = .ok (.ireturn, 1) := by decide +kernel
theorem d_Tree_addContainer_0 : decode b_Tree_addContainer 0 = .ok (.aload_n 0, 1) := by decide +kernel
theorem d_Tree_addContainer_1 : decode b_Tree_addContainer 1 = .ok (.iload_n 1, 1) := by decide +kernel
theorem d_Tree_addContainer_2 : decode b_Tree_addContainer 2 = .ok (.iload_n 2, 1) := by decide +kernel
theorem d_Tree_addContainer_3 : decode b_Tree_addContainer 3 = .ok (.invokevirtual 49, 3) := by decide +kernel
theorem d_Tree_addContainer_6 : decode b_Tree_addContainer 6 = .ok (.istore 4, 2) := by decide +kernel
theorem d_Tree_addContainer_8 : decode b_Tree_addContainer 8 = .ok (.aload_n 0, 1) := by decide +kernel
theorem d_Tree_addContainer_9 : decode b_Tree_addContainer 9 = .ok (.getfield 28, 3) := by decide +kernel
theorem d_Tree_addContainer_12 : decode b_Tree_addContainer 12 = .ok (.iload 4, 2) := by decide +kernel
theorem d_Tree_addContainer_14 : decode b_Tree_addContainer 14 = .ok (.iload_n 3, 1) := by decide +kernel
theorem d_Tree_addContainer_15 : decode b_Tree_addContainer 15 = .ok (.bastore, 1) := by decide +kernel
theorem d_Tree_addContainer_16 : decode b_Tree_addContainer 16 = .ok (.iload 4, 2) := by decide +kernel
theorem d_Tree_addContainer_18 : decode b_Tree_addContainer 18 = .ok (.ireturn, 1) := by decide +kernel
theorem d_Tree_addTest_0 : decode b_Tree_addTest 0 = .ok (.aload_n 0, 1) := by decide +kernel
theorem d_Tree_addTest_1 : decode b_Tree_addTest 1 = .ok (.iload_n 1, 1) := by decide +kernel
theorem d_Tree_addTest_2 : decode b_Tree_addTest 2 = .ok (.iload_n 2, 1) := by decide +kernel
theorem d_Tree_addTest_3 : decode b_Tree_addTest 3 = .ok (.invokevirtual 49, 3) := by decide +kernel
theorem d_Tree_addTest_6 : decode b_Tree_addTest 6 = .ok (.istore 5, 2) := by decide +kernel
theorem d_Tree_addTest_8 : decode b_Tree_addTest 8 = .ok (.aload_n 0, 1) := by decide +kernel
theorem d_Tree_addTest_9 : decode b_Tree_addTest 9 = .ok (.getfield 31, 3) := by decide +kernel
theorem d_Tree_addTest_12 : decode b_Tree_addTest 12 = .ok (.iload 5, 2) := by decide +kernel
theorem d_Tree_addTest_14 : decode b_Tree_addTest 14 = .ok (.iload_n 3, 1) := by decide +kernel
theorem d_Tree_addTest_15 : decode b_Tree_addTest 15 = .ok (.iastore, 1) := by decide +kernel
theorem d_Tree_addTest_16 : decode b_Tree_addTest 16 = .ok (.aload_n 0, 1) := by decide +kernel
theorem d_Tree_addTest_17 : decode b_Tree_addTest 17 = .ok (.getfield 34, 3) := by decide +kernel
theorem d_Tree_addTest_20 : decode b_Tree_addTest 20 = .ok (.iload 5, 2) := by decide +kernel
theorem d_Tree_addTest_22 : decode b_Tree_addTest 22 = .ok (.iload 4, 2) := by decide +kernel
theorem d_Tree_addTest_24 : decode b_Tree_addTest 24 = .ok (.iastore, 1) := by decide +kernel
theorem d_Tree_addTest_25 : decode b_Tree_addTest 25 = .ok (.iload 5, 2) := by decide +kernel
theorem d_Tree_addTest_27 : decode b_Tree_addTest 27 = .ok (.ireturn, 1) := by decide +kernel
theorem d_Tree_addNode_0 : decode b_Tree_addNode 0 = .ok (.aload_n 0, 1) := by decide +kernel
theorem d_Tree_addNode_1 : decode b_Tree_addNode 1 = .ok (.getfield 37, 3) := by decide +kernel
theorem d_Tree_addNode_4 : decode b_Tree_addNode 4 = .ok (.istore_n 3, 1) := by decide +kernel
theorem d_Tree_addNode_5 : decode b_Tree_addNode 5 = .ok (.aload_n 0, 1) := by decide +kernel
theorem d_Tree_addNode_6 : decode b_Tree_addNode 6 = .ok (.getfield 9, 3) := by decide +kernel
theorem d_Tree_addNode_9 : decode b_Tree_addNode 9 = .ok (.iload_n 3, 1) := by decide +kernel
theorem d_Tree_addNode_10 : decode b_Tree_addNode 10 = .ok (.iload_n 1, 1) := by decide +kernel
theorem d_Tree_addNode_11 : decode b_Tree_addNode 11 = .ok (.iastore, 1) := by decide +kernel
theorem d_Tree_addNode_12 : decode b_Tree_addNode 12 = .ok (.aload_n 0, 1) := by decide +kernel
theorem d_Tree_addNode_13 : decode b_Tree_addNode 13 = .ok (.getfield 15, 3) := by decide +kernel
theorem d_Tree_addNode_16 : decode b_Tree_addNode 16 = .ok (.iload_n 3, 1) := by decide +kernel
theorem d_Tree_addNode_17 : decode b_Tree_addNode 17 = .ok (.aload_n 0, 1) := by decide +kernel
theorem d_Tree_addNode_18 : decode b_Tree_addNode 18 = .ok (.getfield 15, 3) := by decide +kernel
theorem d_Tree_addNode_21 : decode b_Tree_addNode 21 = .ok (.iload_n 1, 1) := by decide +kernel
theorem d_Tree_addNode_22 : decode b_Tree_addNode 22 = .ok (.iaload, 1) := by decide +kernel
theorem d_Tree_addNode_23 : decode b_Tree_addNode 23 = .ok (.iconst 1, 1) := by decide +kernel
theorem d_Tree_addNode_24 : decode b_Tree_addNode 24 = .ok (.iadd, 1) := by decide +kernel
theorem d_Tree_addNode_25 : decode b_Tree_addNode 25 = .ok (.iastore, 1) := by decide +kernel
theorem d_Tree_addNode_26 : decode b_Tree_addNode 26 = .ok (.aload_n 0, 1) := by decide +kernel
theorem d_Tree_addNode_27 : decode b_Tree_addNode 27 = .ok (.getfield 18, 3) := by decide +kernel
theorem d_Tree_addNode_30 : decode b_Tree_addNode 30 = .ok (.iload_n 3, 1) := by decide +kernel
theorem d_Tree_addNode_31 : decode b_Tree_addNode 31 = .ok (.iload_n 2, 1) := by decide +kernel
theorem d_Tree_addNode_32 : decode b_Tree_addNode 32 = .ok (.iastore, 1) := by decide +kernel
theorem d_Tree_addNode_33 : decode b_Tree_addNode 33 = .ok (.aload_n 0, 1) := by decide +kernel
theorem d_Tree_addNode_34 : decode b_Tree_addNode 34 = .ok (.dup, 1) := by decide +kernel
theorem d_Tree_addNode_35 : decode b_Tree_addNode 35 = .ok (.getfield 37, 3) := by decide +kernel
theorem d_Tree_addNode_38 : decode b_Tree_addNode 38 = .ok (.iconst 1, 1) := by decide +kernel
theorem d_Tree_addNode_39 : decode b_Tree_addNode 39 = .ok (.iadd, 1) := by decide +kernel
theorem d_Tree_addNode_40 : decode b_Tree_addNode 40 = .ok (.putfield 37, 3) := by decide +kernel
theorem d_Tree_addNode_43 : decode b_Tree_addNode 43 = .ok (.iload_n 3, 1) := by decide +kernel
theorem d_Tree_addNode_44 : decode b_Tree_addNode 44 = .ok (.ireturn, 1) := by decide +kernel
theorem d_Tree_setMarks_0 : decode b_Tree_setMarks 0 = .ok (.aload_n 0, 1) := by decide +kernel
theorem d_Tree_setMarks_1 : decode b_Tree_setMarks 1 = .ok (.getfield 21, 3) := by decide +kernel
theorem d_Tree_setMarks_4 : decode b_Tree_setMarks 4 = .ok (.iload_n 1, 1) := by decide +kernel
theorem d_Tree_setMarks_5 : decode b_Tree_setMarks 5 = .ok (.iload_n 2, 1) := by decide +kernel
theorem d_Tree_setMarks_6 : decode b_Tree_setMarks 6 = .ok (.iastore, 1) := by decide +kernel
theorem d_Tree_setMarks_7 : decode b_Tree_setMarks 7 = .ok (.aload_n 0, 1) := by decide +kernel
theorem d_Tree_setMarks_8 : decode b_Tree_setMarks 8 = .ok (.getfield 24, 3) := by decide +kernel
theorem d_Tree_setMarks_11 : decode b_Tree_setMarks 11 = .ok (.iload_n 1, 1) := by decide +kernel
theorem d_Tree_setMarks_12 : decode b_Tree_setMarks 12 = .ok (.iload_n 3, 1) := by decide +kernel
theorem d_Tree_setMarks_13 : decode b_Tree_setMarks 13 = .ok (.bastore, 1) := by decide +kernel
theorem d_Tree_setMarks_14 : decode b_Tree_setMarks 14 = .ok (.return_, 1) := by decide +kernel
theorem d_Tree_parentOf_0 : decode b_Tree_parentOf 0 = .ok (.aload_n 0, 1) := by decide +kernel
theorem d_Tree_parentOf_1 : decode b_Tree_parentOf 1 = .ok (.getfield 9, 3) := by decide +kernel
theorem d_Tree_parentOf_4 : decode b_Tree_parentOf 4 = .ok (.iload_n 1, 1) := by decide +kernel
theorem d_Tree_parentOf_5 : decode b_Tree_parentOf 5 = .ok (.iaload, 1) := by decide +kernel
theorem d_Tree_parentOf_6 : decode b_Tree_parentOf 6 = .ok (.ireturn, 1) := by decide +kernel
theorem d_Tree_depthOf_0 : decode b_Tree_depthOf 0 = .ok (.aload_n 0, 1) := by decide +kernel
theorem d_Tree_depthOf_1 : decode b_Tree_depthOf 1 = .ok (.getfield 15, 3) := by decide +kernel
theorem d_Tree_depthOf_4 : decode b_Tree_depthOf 4 = .ok (.iload_n 1, 1) := by decide +kernel
theorem d_Tree_depthOf_5 : decode b_Tree_depthOf 5 = .ok (.iaload, 1) := by decide +kernel
theorem d_Tree_depthOf_6 : decode b_Tree_depthOf 6 = .ok (.ireturn, 1) := by decide +kernel
theorem d_Tree_tagsOf_0 : decode b_Tree_tagsOf 0 = .ok (.aload_n 0, 1) := by decide +kernel
theorem d_Tree_tagsOf_1 : decode b_Tree_tagsOf 1 = .ok (.getfield 21, 3) := by decide +kernel
theorem d_Tree_tagsOf_4 : decode b_Tree_tagsOf 4 = .ok (.iload_n 1, 1) := by decide +kernel
theorem d_Tree_tagsOf_5 : decode b_Tree_tagsOf 5 = .ok (.iaload, 1) := by decide +kernel
theorem d_Tree_tagsOf_6 : decode b_Tree_tagsOf 6 = .ok (.ireturn, 1) := by decide +kernel
theorem d_Tree_isDisabled_0 : decode b_Tree_isDisabled 0 = .ok (.aload_n 0, 1) := by decide +kernel
theorem d_Tree_isDisabled_1 : decode b_Tree_isDisabled 1 = .ok (.getfield 24, 3) := by decide +kernel
theorem d_Tree_isDisabled_4 : decode b_Tree_isDisabled 4 = .ok (.iload_n 1, 1) := by decide +kernel
theorem d_Tree_isDisabled_5 : decode b_Tree_isDisabled 5 = .ok (.baload, 1) := by decide +kernel
theorem d_Tree_isDisabled_6 : decode b_Tree_isDisabled 6 = .ok (.ireturn, 1) := by decide +kernel
theorem d_Tree_isShared_0 : decode b_Tree_isShared 0 = .ok (.aload_n 0, 1) := by decide +kernel
theorem d_Tree_isShared_1 : decode b_Tree_isShared 1 = .ok (.getfield 28, 3) := by decide +kernel
theorem d_Tree_isShared_4 : decode b_Tree_isShared 4 = .ok (.iload_n 1, 1) := by decide +kernel
theorem d_Tree_isShared_5 : decode b_Tree_isShared 5 = .ok (.baload, 1) := by decide +kernel
theorem d_Tree_isShared_6 : decode b_Tree_isShared 6 = .ok (.ireturn, 1) := by decide +kernel
theorem d_Tree_roundsOf_0 : decode b_Tree_roundsOf 0 = .ok (.aload_n 0, 1) := by decide +kernel
theorem d_Tree_roundsOf_1 : decode b_Tree_roundsOf 1 = .ok (.getfield 31, 3) := by decide +kernel
theorem d_Tree_roundsOf_4 : decode b_Tree_roundsOf 4 = .ok (.iload_n 1, 1) := by decide +kernel
theorem d_Tree_roundsOf_5 : decode b_Tree_roundsOf 5 = .ok (.iaload, 1) := by decide +kernel
theorem d_Tree_roundsOf_6 : decode b_Tree_roundsOf 6 = .ok (.ireturn, 1) := by decide +kernel
theorem d_Tree_deadlineOf_0 : decode b_Tree_deadlineOf 0 = .ok (.aload_n 0, 1) := by decide +kernel
theorem d_Tree_deadlineOf_1 : decode b_Tree_deadlineOf 1 = .ok (.getfield 34, 3) := by decide +kernel
theorem d_Tree_deadlineOf_4 : decode b_Tree_deadlineOf 4 = .ok (.iload_n 1, 1) := by decide +kernel
theorem d_Tree_deadlineOf_5 : decode b_Tree_deadlineOf 5 = .ok (.iaload, 1) := by decide +kernel
theorem d_Tree_deadlineOf_6 : decode b_Tree_deadlineOf 6 = .ok (.ireturn, 1) := by decide +kernel
theorem d_Tree_childAfter_0 : decode b_Tree_childAfter 0 = .ok (.iload_n 2, 1) := by decide +kernel
theorem d_Tree_childAfter_1 : decode b_Tree_childAfter 1 = .ok (.iconst (-1), 1) := by decide +kernel
end
section
theorem d_Tree_childAfter_2 : decode b_Tree_childAfter 2 = .ok (.if_icmp .ne 7, 3) := by decide +kernel
theorem d_Tree_childAfter_5 : decode b_Tree_childAfter 5 = .ok (.iconst (-1), 1) := by decide +kernel
theorem d_Tree_childAfter_6 : decode b_Tree_childAfter 6 = .ok (.goto 8, 3) := by decide +kernel
theorem d_Tree_childAfter_9 : decode b_Tree_childAfter 9 = .ok (.aload_n 0, 1) := by decide +kernel
theorem d_Tree_childAfter_10 : decode b_Tree_childAfter 10 = .ok (.iload_n 2, 1) := by decide +kernel
theorem d_Tree_childAfter_11 : decode b_Tree_childAfter 11 = .ok (.invokevirtual 53, 3) := by decide +kernel
theorem d_Tree_childAfter_14 : decode b_Tree_childAfter 14 = .ok (.istore_n 3, 1) := by decide +kernel
theorem d_Tree_childAfter_15 : decode b_Tree_childAfter 15 = .ok (.iconst (-1), 1) := by decide +kernel
theorem d_Tree_childAfter_16 : decode b_Tree_childAfter 16 = .ok (.istore 4, 2) := by decide +kernel
theorem d_Tree_childAfter_18 : decode b_Tree_childAfter 18 = .ok (.iload_n 1, 1) := by decide +kernel
theorem d_Tree_childAfter_19 : decode b_Tree_childAfter 19 = .ok (.iconst 1, 1) := by decide +kernel
theorem d_Tree_childAfter_20 : decode b_Tree_childAfter 20 = .ok (.iadd, 1) := by decide +kernel
theorem d_Tree_childAfter_21 : decode b_Tree_childAfter 21 = .ok (.istore 5, 2) := by decide +kernel
theorem d_Tree_childAfter_23 : decode b_Tree_childAfter 23 = .ok (.iload 5, 2) := by decide +kernel
theorem d_Tree_childAfter_25 : decode b_Tree_childAfter 25 = .ok (.aload_n 0, 1) := by decide +kernel
theorem d_Tree_childAfter_26 : decode b_Tree_childAfter 26 = .ok (.getfield 37, 3) := by decide +kernel
theorem d_Tree_childAfter_29 : decode b_Tree_childAfter 29 = .ok (.if_icmp .ge 55, 3) := by decide +kernel
theorem d_Tree_childAfter_32 : decode b_Tree_childAfter 32 = .ok (.aload_n 0, 1) := by decide +kernel
theorem d_Tree_childAfter_33 : decode b_Tree_childAfter 33 = .ok (.getfield 9, 3) := by decide +kernel
theorem d_Tree_childAfter_36 : decode b_Tree_childAfter 36 = .ok (.iload 5, 2) := by decide +kernel
theorem d_Tree_childAfter_38 : decode b_Tree_childAfter 38 = .ok (.iaload, 1) := by decide +kernel
theorem d_Tree_childAfter_39 : decode b_Tree_childAfter 39 = .ok (.iload_n 1, 1) := by decide +kernel
theorem d_Tree_childAfter_40 : decode b_Tree_childAfter 40 = .ok (.if_icmp .ne 38, 3) := by decide +kernel
theorem d_Tree_childAfter_43 : decode b_Tree_childAfter 43 = .ok (.aload_n 0, 1) := by decide +kernel
theorem d_Tree_childAfter_44 : decode b_Tree_childAfter 44 = .ok (.iload 5, 2) := by decide +kernel
theorem d_Tree_childAfter_46 : decode b_Tree_childAfter 46 = .ok (.invokevirtual 53, 3) := by decide +kernel
theorem d_Tree_childAfter_49 : decode b_Tree_childAfter 49 = .ok (.iload_n 3, 1) := by decide +kernel
theorem d_Tree_childAfter_50 : decode b_Tree_childAfter 50 = .ok (.if_icmp .le 28, 3) := by decide +kernel
theorem d_Tree_childAfter_53 : decode b_Tree_childAfter 53 = .ok (.iload 4, 2) := by decide +kernel
theorem d_Tree_childAfter_55 : decode b_Tree_childAfter 55 = .ok (.iconst (-1), 1) := by decide +kernel
theorem d_Tree_childAfter_56 : decode b_Tree_childAfter 56 = .ok (.if_icmp .eq 18, 3) := by decide +kernel
theorem d_Tree_childAfter_59 : decode b_Tree_childAfter 59 = .ok (.aload_n 0, 1) := by decide +kernel
theorem d_Tree_childAfter_60 : decode b_Tree_childAfter 60 = .ok (.iload 5, 2) := by decide +kernel
theorem d_Tree_childAfter_62 : decode b_Tree_childAfter 62 = .ok (.invokevirtual 53, 3) := by decide +kernel
theorem d_Tree_childAfter_65 : decode b_Tree_childAfter 65 = .ok (.aload_n 0, 1) := by decide +kernel
theorem d_Tree_childAfter_66 : decode b_Tree_childAfter 66 = .ok (.iload 4, 2) := by decide +kernel
theorem d_Tree_childAfter_68 : decode b_Tree_childAfter 68 = .ok (.invokevirtual 53, 3) := by decide +kernel
theorem d_Tree_childAfter_71 : decode b_Tree_childAfter 71 = .ok (.if_icmp .ge 7, 3) := by decide +kernel
theorem d_Tree_childAfter_74 : decode b_Tree_childAfter 74 = .ok (.iload 5, 2) := by decide +kernel
theorem d_Tree_childAfter_76 : decode b_Tree_childAfter 76 = .ok (.istore 4, 2) := by decide +kernel
theorem d_Tree_childAfter_78 : decode b_Tree_childAfter 78 = .ok (.iinc 5 1, 3) := by decide +kernel
theorem d_Tree_childAfter_81 : decode b_Tree_childAfter 81 = .ok (.goto (-58), 3) := by decide +kernel
theorem d_Tree_childAfter_84 : decode b_Tree_childAfter 84 = .ok (.iload 4, 2) := by decide +kernel
theorem d_Tree_childAfter_86 : decode b_Tree_childAfter 86 = .ok (.ireturn, 1) := by decide +kernel
theorem d_Tree_rankOf_0 : decode b_Tree_rankOf 0 = .ok (.aload_n 0, 1) := by decide +kernel
theorem d_Tree_rankOf_1 : decode b_Tree_rankOf 1 = .ok (.getfield 18, 3) := by decide +kernel
theorem d_Tree_rankOf_4 : decode b_Tree_rankOf 4 = .ok (.iload_n 1, 1) := by decide +kernel
theorem d_Tree_rankOf_5 : decode b_Tree_rankOf 5 = .ok (.iaload, 1) := by decide +kernel
theorem d_Tree_rankOf_6 : decode b_Tree_rankOf 6 = .ok (.bipush 24, 2) := by decide +kernel
theorem d_Tree_rankOf_8 : decode b_Tree_rankOf 8 = .ok (.imul, 1) := by decide +kernel
theorem d_Tree_rankOf_9 : decode b_Tree_rankOf 9 = .ok (.iload_n 1, 1) := by decide +kernel
theorem d_Tree_rankOf_10 : decode b_Tree_rankOf 10 = .ok (.iadd, 1) := by decide +kernel
theorem d_Tree_rankOf_11 : decode b_Tree_rankOf 11 = .ok (.ireturn, 1) := by decide +kernel
theorem d_Tree_writePath_0 : decode b_Tree_writePath 0 = .ok (.iload_n 1, 1) := by decide +kernel
theorem d_Tree_writePath_1 : decode b_Tree_writePath 1 = .ok (.istore_n 3, 1) := by decide +kernel
theorem d_Tree_writePath_2 : decode b_Tree_writePath 2 = .ok (.aload_n 0, 1) := by decide +kernel
theorem d_Tree_writePath_3 : decode b_Tree_writePath 3 = .ok (.getfield 15, 3) := by decide +kernel
theorem d_Tree_writePath_6 : decode b_Tree_writePath 6 = .ok (.iload_n 1, 1) := by decide +kernel
theorem d_Tree_writePath_7 : decode b_Tree_writePath 7 = .ok (.iaload, 1) := by decide +kernel
theorem d_Tree_writePath_8 : decode b_Tree_writePath 8 = .ok (.istore 4, 2) := by decide +kernel
theorem d_Tree_writePath_10 : decode b_Tree_writePath 10 = .ok (.iload 4, 2) := by decide +kernel
theorem d_Tree_writePath_12 : decode b_Tree_writePath 12 = .ok (.ifCond .lt 21, 3) := by decide +kernel
theorem d_Tree_writePath_15 : decode b_Tree_writePath 15 = .ok (.aload_n 2, 1) := by decide +kernel
theorem d_Tree_writePath_16 : decode b_Tree_writePath 16 = .ok (.iload 4, 2) := by decide +kernel
theorem d_Tree_writePath_18 : decode b_Tree_writePath 18 = .ok (.iload_n 3, 1) := by decide +kernel
theorem d_Tree_writePath_19 : decode b_Tree_writePath 19 = .ok (.iastore, 1) := by decide +kernel
theorem d_Tree_writePath_20 : decode b_Tree_writePath 20 = .ok (.aload_n 0, 1) := by decide +kernel
theorem d_Tree_writePath_21 : decode b_Tree_writePath 21 = .ok (.getfield 9, 3) := by decide +kernel
theorem d_Tree_writePath_24 : decode b_Tree_writePath 24 = .ok (.iload_n 3, 1) := by decide +kernel
theorem d_Tree_writePath_25 : decode b_Tree_writePath 25 = .ok (.iaload, 1) := by decide +kernel
theorem d_Tree_writePath_26 : decode b_Tree_writePath 26 = .ok (.istore_n 3, 1) := by decide +kernel
theorem d_Tree_writePath_27 : decode b_Tree_writePath 27 = .ok (.iinc 4 (-1), 3) := by decide +kernel
theorem d_Tree_writePath_30 : decode b_Tree_writePath 30 = .ok (.goto (-20), 3) := by decide +kernel
theorem d_Tree_writePath_33 : decode b_Tree_writePath 33 = .ok (.return_, 1) := by decide +kernel
theorem d_Troubles_init_0 : decode b_Troubles_init 0 = .ok (.aload_n 0, 1) := by decide +kernel
theorem d_Troubles_init_1 : decode b_Troubles_init 1 = .ok (.invokespecial 3, 3) := by decide +kernel
theorem d_Troubles_init_4 : decode b_Troubles_init 4 = .ok (.aload_n 0, 1) := by decide +kernel
theorem d_Troubles_init_5 : decode b_Troubles_init 5 = .ok (.iconst 4, 1) := by decide +kernel
theorem d_Troubles_init_6 : decode b_Troubles_init 6 = .ok (.newarray .int, 2) := by decide +kernel
theorem d_Troubles_init_8 : decode b_Troubles_init 8 = .ok (.putfield 9, 3) := by decide +kernel
theorem d_Troubles_init_11 : decode b_Troubles_init 11 = .ok (.return_, 1) := by decide +kernel
theorem d_Troubles_clear_0 : decode b_Troubles_clear 0 = .ok (.aload_n 0, 1) := by decide +kernel
theorem d_Troubles_clear_1 : decode b_Troubles_clear 1 = .ok (.iconst 0, 1) := by decide +kernel
theorem d_Troubles_clear_2 : decode b_Troubles_clear 2 = .ok (.putfield 15, 3) := by decide +kernel
theorem d_Troubles_clear_5 : decode b_Troubles_clear 5 = .ok (.aload_n 0, 1) := by decide +kernel
theorem d_Troubles_clear_6 : decode b_Troubles_clear 6 = .ok (.iconst 0, 1) := by decide +kernel
theorem d_Troubles_clear_7 : decode b_Troubles_clear 7 = .ok (.putfield 19, 3) := by decide +kernel
theorem d_Troubles_clear_10 : decode b_Troubles_clear 10 = .ok (.return_, 1) := by decide +kernel
theorem d_Troubles_join_0 : decode b_Troubles_join 0 = .ok (.aload_n 0, 1) := by decide +kernel
theorem d_Troubles_join_1 : decode b_Troubles_join 1 = .ok (.getfield 15, 3) := by decide +kernel
theorem d_Troubles_join_4 : decode b_Troubles_join 4 = .ok (.ifCond .ne 8, 3) := by decide +kernel
theorem d_Troubles_join_7 : decode b_Troubles_join 7 = .ok (.aload_n 0, 1) := by decide +kernel
theorem d_Troubles_join_8 : decode b_Troubles_join 8 = .ok (.iload_n 2, 1) := by decide +kernel
theorem d_Troubles_join_9 : decode b_Troubles_join 9 = .ok (.putfield 19, 3) := by decide +kernel
theorem d_Troubles_join_12 : decode b_Troubles_join 12 = .ok (.aload_n 0, 1) := by decide +kernel
theorem d_Troubles_join_13 : decode b_Troubles_join 13 = .ok (.getfield 15, 3) := by decide +kernel
theorem d_Troubles_join_16 : decode b_Troubles_join 16 = .ok (.iconst 4, 1) := by decide +kernel
theorem d_Troubles_join_17 : decode b_Troubles_join 17 = .ok (.if_icmp .ge 13, 3) := by decide +kernel
theorem d_Troubles_join_20 : decode b_Troubles_join 20 = .ok (.aload_n 0, 1) := by decide +kernel
theorem d_Troubles_join_21 : decode b_Troubles_join 21 = .ok (.getfield 9, 3) := by decide +kernel
theorem d_Troubles_join_24 : decode b_Troubles_join 24 = .ok (.aload_n 0, 1) := by decide +kernel
theorem d_Troubles_join_25 : decode b_Troubles_join 25 = .ok (.getfield 15, 3) := by decide +kernel
theorem d_Troubles_join_28 : decode b_Troubles_join 28 = .ok (.iload_n 1, 1) := by decide +kernel
theorem d_Troubles_join_29 : decode b_Troubles_join 29 = .ok (.iastore, 1) := by decide +kernel
theorem d_Troubles_join_30 : decode b_Troubles_join 30 = .ok (.aload_n 0, 1) := by decide +kernel
theorem d_Troubles_join_31 : decode b_Troubles_join 31 = .ok (.dup, 1) := by decide +kernel
theorem d_Troubles_join_32 : decode b_Troubles_join 32 = .ok (.getfield 15, 3) := by decide +kernel
theorem d_Troubles_join_35 : decode b_Troubles_join 35 = .ok (.iconst 1, 1) := by decide +kernel
theorem d_Troubles_join_36 : decode b_Troubles_join 36 = .ok (.iadd, 1) := by decide +kernel
theorem d_Troubles_join_37 : decode b_Troubles_join 37 = .ok (.putfield 15, 3) := by decide +kernel
theorem d_Troubles_join_40 : decode b_Troubles_join 40 = .ok (.return_, 1) := by decide +kernel
theorem d_Troubles_isEmpty_0 : decode b_Troubles_isEmpty 0 = .ok (.aload_n 0, 1) := by decide +kernel
theorem d_Troubles_isEmpty_1 : decode b_Troubles_isEmpty 1 = .ok (.getfield 15, 3) := by decide +kernel
theorem d_Troubles_isEmpty_4 : decode b_Troubles_isEmpty 4 = .ok (.ifCond .ne 7, 3) := by decide +kernel
theorem d_Troubles_isEmpty_7 : decode b_Troubles_isEmpty 7 = .ok (.iconst 1, 1) := by decide +kernel
theorem d_Troubles_isEmpty_8 : decode b_Troubles_isEmpty 8 = .ok (.goto 4, 3) := by decide +kernel
theorem d_Troubles_isEmpty_11 : decode b_Troubles_isEmpty 11 = .ok (.iconst 0, 1) := by decide +kernel
theorem d_Troubles_isEmpty_12 : decode b_Troubles_isEmpty 12 = .ok (.ireturn, 1) := by decide +kernel
theorem d_Troubles_status_0 : decode b_Troubles_status 0 = .ok (.aload_n 0, 1) := by decide +kernel
theorem d_Troubles_status_1 : decode b_Troubles_status 1 = .ok (.getfield 15, 3) := by decide +kernel
theorem d_Troubles_status_4 : decode b_Troubles_status 4 = .ok (.ifCond .ne 5, 3) := by decide +kernel
theorem d_Troubles_status_7 : decode b_Troubles_status 7 = .ok (.iconst 0, 1) := by decide +kernel
theorem d_Troubles_status_8 : decode b_Troubles_status 8 = .ok (.ireturn, 1) := by decide +kernel
theorem d_Troubles_status_9 : decode b_Troubles_status 9 = .ok (.aload_n 0, 1) := by decide +kernel
theorem d_Troubles_status_10 : decode b_Troubles_status 10 = .ok (.getfield 19, 3) := by decide +kernel
theorem d_Troubles_status_13 : decode b_Troubles_status 13 = .ok (.ifCond .eq 7, 3) := by decide +kernel
theorem d_Troubles_status_16 : decode b_Troubles_status 16 = .ok (.iconst 2, 1) := by decide +kernel
theorem d_Troubles_status_17 : decode b_Troubles_status 17 = .ok (.goto 4, 3) := by decide +kernel
theorem d_Troubles_status_20 : decode b_Troubles_status 20 = .ok (.iconst 1, 1) := by decide +kernel
theorem d_Troubles_status_21 : decode b_Troubles_status 21 = .ok (.ireturn, 1) := by decide +kernel
theorem d_Troubles_firstCode_0 : decode b_Troubles_firstCode 0 = .ok (.aload_n 0, 1) := by decide +kernel
theorem d_Troubles_firstCode_1 : decode b_Troubles_firstCode 1 = .ok (.getfield 15, 3) := by decide +kernel
theorem d_Troubles_firstCode_4 : decode b_Troubles_firstCode 4 = .ok (.ifCond .ne 7, 3) := by decide +kernel
theorem d_Troubles_firstCode_7 : decode b_Troubles_firstCode 7 = .ok (.iconst (-1), 1) := by decide +kernel
theorem d_Troubles_firstCode_8 : decode b_Troubles_firstCode 8 = .ok (.goto 9, 3) := by decide +kernel
theorem d_Troubles_firstCode_11 : decode b_Troubles_firstCode 11 = .ok (.aload_n 0, 1) := by decide +kernel
theorem d_Troubles_firstCode_12 : decode b_Troubles_firstCode 12 = .ok (.getfield 9, 3) := by decide +kernel
theorem d_Troubles_firstCode_15 : decode b_Troubles_firstCode 15 = .ok (.iconst 0, 1) := by decide +kernel
theorem d_Troubles_firstCode_16 : decode b_Troubles_firstCode 16 = .ok (.iaload, 1) := by decide +kernel
theorem d_Troubles_firstCode_17 : decode b_Troubles_firstCode 17 = .ok (.ireturn, 1) := by decide +kernel
theorem d_Troubles_sizeBehindFirst_0 : decode b_Troubles_sizeBehindFirst 0 = .ok (.aload_n 0, 1) := by decide +kernel
theorem d_Troubles_sizeBehindFirst_1 : decode b_Troubles_sizeBehindFirst 1 = .ok (.getfield 15, 3) := by decide +kernel
theorem d_Troubles_sizeBehindFirst_4 : decode b_Troubles_sizeBehindFirst 4 = .ok (.ifCond .ne 7, 3) := by decide +kernel
theorem d_Troubles_sizeBehindFirst_7 : decode b_Troubles_sizeBehindFirst 7 = .ok (.iconst 0, 1) := by decide +kernel
theorem d_Troubles_sizeBehindFirst_8 : decode b_Troubles_sizeBehindFirst 8 = .ok (.goto 9, 3) := by decide +kernel
theorem d_Troubles_sizeBehindFirst_11 : decode b_Troubles_sizeBehindFirst 11 = .ok (.aload_n 0, 1) := by decide +kernel
theorem d_Troubles_sizeBehindFirst_12 : decode b_Troubles_sizeBehindFirst 12 = .ok (.getfield 15, 3) := by decide +kernel
theorem d_Troubles_sizeBehindFirst_15 : decode b_Troubles_sizeBehindFirst 15 = .ok (.iconst 1, 1) := by decide +kernel
theorem d_Troubles_sizeBehindFirst_16 : decode b_Troubles_sizeBehindFirst 16 = .ok (.isub, 1) := by decide +kernel
theorem d_Troubles_sizeBehindFirst_17 : decode b_Troubles_sizeBehindFirst 17 = .ok (.ireturn, 1) := by decide +kernel
theorem d_Troubles_codeOrNone_0 : decode b_Troubles_codeOrNone 0 = .ok (.iload_n 1, 1) := by decide +kernel
theorem d_Troubles_codeOrNone_1 : decode b_Troubles_codeOrNone 1 = .ok (.aload_n 0, 1) := by decide +kernel
theorem d_Troubles_codeOrNone_2 : decode b_Troubles_codeOrNone 2 = .ok (.getfield 15, 3) := by decide +kernel
theorem d_Troubles_codeOrNone_5 : decode b_Troubles_codeOrNone 5 = .ok (.if_icmp .ge 12, 3) := by decide +kernel
theorem d_Troubles_codeOrNone_8 : decode b_Troubles_codeOrNone 8 = .ok (.aload_n 0, 1) := by decide +kernel
theorem d_Troubles_codeOrNone_9 : decode b_Troubles_codeOrNone 9 = .ok (.getfield 9, 3) := by decide +kernel
theorem d_Troubles_codeOrNone_12 : decode b_Troubles_codeOrNone 12 = .ok (.iload_n 1, 1) := by decide +kernel
theorem d_Troubles_codeOrNone_13 : decode b_Troubles_codeOrNone 13 = .ok (.iaload, 1) := by decide +kernel
theorem d_Troubles_codeOrNone_14 : decode b_Troubles_codeOrNone 14 = .ok (.goto 6, 3) := by decide +kernel
theorem d_Troubles_codeOrNone_17 : decode b_Troubles_codeOrNone 17 = .ok (.sipush (-1000), 3) := by decide +kernel
theorem d_Troubles_codeOrNone_20 : decode b_Troubles_codeOrNone 20 = .ok (.ireturn, 1) := by decide +kernel
theorem d_Engine_init_0 : decode b_Engine_init 0 = .ok (.aload_n 0, 1) := by decide +kernel
theorem d_Engine_init_1 : decode b_Engine_init 1 = .ok (.invokespecial 3, 3) := by decide +kernel
theorem d_Engine_init_4 : decode b_Engine_init 4 = .ok (.aload_n 0, 1) := by decide +kernel
theorem d_Engine_init_5 : decode b_Engine_init 5 = .ok (.new 9, 3) := by decide +kernel
theorem d_Engine_init_8 : decode b_Engine_init 8 = .ok (.dup, 1) := by decide +kernel
theorem d_Engine_init_9 : decode b_Engine_init 9 = .ok (.invokespecial 11, 3) := by decide +kernel
theorem d_Engine_init_12 : decode b_Engine_init 12 = .ok (.putfield 12, 3) := by decide +kernel
theorem d_Engine_init_15 : decode b_Engine_init 15 = .ok (.aload_n 0, 1) := by decide +kernel
theorem d_Engine_init_16 : decode b_Engine_init 16 = .ok (.new 16, 3) := by decide +kernel
theorem d_Engine_init_19 : decode b_Engine_init 19 = .ok (.dup, 1) := by decide +kernel
theorem d_Engine_init_20 : decode b_Engine_init 20 = .ok (.invokespecial 18, 3) := by decide +kernel
theorem d_Engine_init_23 : decode b_Engine_init 23 = .ok (.putfield 19, 3) := by decide +kernel
theorem d_Engine_init_26 : decode b_Engine_init 26 = .ok (.aload_n 0, 1) := by decide +kernel
theorem d_Engine_init_27 : decode b_Engine_init 27 = .ok (.new 23, 3) := by decide +kernel
theorem d_Engine_init_30 : decode b_Engine_init 30 = .ok (.dup, 1) := by decide +kernel
theorem d_Engine_init_31 : decode b_Engine_init 31 = .ok (.aload_n 0, 1) := by decide +kernel
theorem d_Engine_init_32 : decode b_Engine_init 32 = .ok (.getfield 12, 3) := by decide +kernel
theorem d_Engine_init_35 : decode b_Engine_init 35 = .ok (.invokespecial 25, 3) := by decide +kernel
theorem d_Engine_init_38 : decode b_Engine_init 38 = .ok (.putfield 28, 3) := by decide +kernel
theorem d_Engine_init_41 : decode b_Engine_init 41 = .ok (.aload_n 0, 1) := by decide +kernel
theorem d_Engine_init_42 : decode b_Engine_init 42 = .ok (.new 32, 3) := by decide +kernel
theorem d_Engine_init_45 : decode b_Engine_init 45 = .ok (.dup, 1) := by decide +kernel
theorem d_Engine_init_46 : decode b_Engine_init 46 = .ok (.invokespecial 34, 3) := by decide +kernel
theorem d_Engine_init_49 : decode b_Engine_init 49 = .ok (.putfield 35, 3) := by decide +kernel
theorem d_Engine_init_52 : decode b_Engine_init 52 = .ok (.aload_n 0, 1) := by decide +kernel
theorem d_Engine_init_53 : decode b_Engine_init 53 = .ok (.new 39, 3) := by decide +kernel
theorem d_Engine_init_56 : decode b_Engine_init 56 = .ok (.dup, 1) := by decide +kernel
theorem d_Engine_init_57 : decode b_Engine_init 57 = .ok (.aload_n 0, 1) := by decide +kernel
theorem d_Engine_init_58 : decode b_Engine_init 58 = .ok (.getfield 12, 3) := by decide +kernel
theorem d_Engine_init_61 : decode b_Engine_init 61 = .ok (.aload_n 0, 1) := by decide +kernel
theorem d_Engine_init_62 : decode b_Engine_init 62 = .ok (.getfield 19, 3) := by decide +kernel
theorem d_Engine_init_65 : decode b_Engine_init 65 = .ok (.aload_n 0, 1) := by decide +kernel
theorem d_Engine_init_66 : decode b_Engine_init 66 = .ok (.getfield 28, 3) := by decide +kernel
theorem d_Engine_init_69 : decode b_Engine_init 69 = .ok (.aload_n 0, 1) := by decide +kernel
theorem d_Engine_init_70 : decode b_Engine_init 70 = .ok (.getfield 35, 3) := by decide +kernel
theorem d_Engine_init_73 : decode b_Engine_init 73 = .ok (.invokespecial 41, 3) := by decide +kernel
theorem d_Engine_init_76 : decode b_Engine_init 76 = .ok (.putfield 44, 3) := by decide +kernel
theorem d_Engine_init_79 : decode b_Engine_init 79 = .ok (.return_, 1) := by decide +kernel
theorem d_Engine_container_0 : decode b_Engine_container 0 = .ok (.aload_n 0, 1) := by decide +kernel
theorem d_Engine_container_1 : decode b_Engine_container 1 = .ok (.getfield 12, 3) := by decide +kernel
theorem d_Engine_container_4 : decode b_Engine_container 4 = .ok (.iload_n 1, 1) := by decide +kernel
theorem d_Engine_container_5 : decode b_Engine_container 5 = .ok (.invokevirtual 48, 3) := by decide +kernel
theorem d_Engine_container_8 : decode b_Engine_container 8 = .ok (.ifCond .eq 25, 3) := by decide +kernel
theorem d_Engine_container_11 : decode b_Engine_container 11 = .ok (.aload_n 0, 1) := by decide +kernel
theorem d_Engine_container_12 : decode b_Engine_container 12 = .ok (.getfield 12, 3) := by decide +kernel
theorem d_Engine_container_15 : decode b_Engine_container 15 = .ok (.iload_n 1, 1) := by decide +kernel
theorem d_Engine_container_16 : decode b_Engine_container 16 = .ok (.invokevirtual 52, 3) := by decide +kernel
theorem d_Engine_container_19 : decode b_Engine_container 19 = .ok (.iconst 3, 1) := by decide +kernel
theorem d_Engine_container_20 : decode b_Engine_container 20 = .ok (.if_icmp .ge 13, 3) := by decide +kernel
theorem d_Engine_container_23 : decode b_Engine_container 23 = .ok (.iload_n 2, 1) := by decide +kernel
theorem d_Engine_container_24 : decode b_Engine_container 24 = .ok (.iconst 0, 1) := by decide +kernel
theorem d_Engine_container_25 : decode b_Engine_container 25 = .ok (.bipush 99, 2) := by decide +kernel
theorem d_Engine_container_27 : decode b_Engine_container 27 = .ok (.invokestatic 56, 3) := by decide +kernel
theorem d_Engine_container_30 : decode b_Engine_container 30 = .ok (.ifCond .ne 5, 3) := by decide +kernel
theorem d_Engine_container_33 : decode b_Engine_container 33 = .ok (.iconst (-1), 1) := by decide +kernel
theorem d_Engine_container_34 : decode b_Engine_container 34 = .ok (.ireturn, 1) := by decide +kernel
theorem d_Engine_container_35 : decode b_Engine_container 35 = .ok (.aload_n 0, 1) := by decide +kernel
theorem d_Engine_container_36 : decode b_Engine_container 36 = .ok (.getfield 12, 3) := by decide +kernel
theorem d_Engine_container_39 : decode b_Engine_container 39 = .ok (.invokevirtual 60, 3) := by decide +kernel
theorem d_Engine_container_42 : decode b_Engine_container 42 = .ok (.ifCond .eq 6, 3) := by decide +kernel
theorem d_Engine_container_45 : decode b_Engine_container 45 = .ok (.bipush (-2), 2) := by decide +kernel
theorem d_Engine_container_47 : decode b_Engine_container 47 = .ok (.ireturn, 1) := by decide +kernel
theorem d_Engine_container_48 : decode b_Engine_container 48 = .ok (.aload_n 0, 1) := by decide +kernel
theorem d_Engine_container_49 : decode b_Engine_container 49 = .ok (.getfield 12, 3) := by decide +kernel
theorem d_Engine_container_52 : decode b_Engine_container 52 = .ok (.iload_n 1, 1) := by decide +kernel
theorem d_Engine_container_53 : decode b_Engine_container 53 = .ok (.iload_n 2, 1) := by decide +kernel
theorem d_Engine_container_54 : decode b_Engine_container 54 = .ok (.iload_n 3, 1) := by decide +kernel
theorem d_Engine_container_55 : decode b_Engine_container 55 = .ok (.invokevirtual 64, 3) := by decide +kernel
theorem d_Engine_container_58 : decode b_Engine_container 58 = .ok (.ireturn, 1) := by decide +kernel
theorem d_Engine_test_0 : decode b_Engine_test 0 = .ok (.aload_n 0, 1) := by decide +kernel
theorem d_Engine_test_1 : decode b_Engine_test 1 = .ok (.getfield 12, 3) := by decide +kernel
theorem d_Engine_test_4 : decode b_Engine_test 4 = .ok (.iload_n 1, 1) := by decide +kernel
theorem d_Engine_test_5 : decode b_Engine_test 5 = .ok (.invokevirtual 48, 3) := by decide +kernel
theorem d_Engine_test_8 : decode b_Engine_test 8 = .ok (.ifCond .eq 33, 3) := by decide +kernel
theorem d_Engine_test_11 : decode b_Engine_test 11 = .ok (.iload_n 2, 1) := by decide +kernel
theorem d_Engine_test_12 : decode b_Engine_test 12 = .ok (.iconst 0, 1) := by decide +kernel
theorem d_Engine_test_13 : decode b_Engine_test 13 = .ok (.bipush 99, 2) := by decide +kernel
theorem d_Engine_test_15 : decode b_Engine_test 15 = .ok (.invokestatic 56, 3) := by decide +kernel
theorem d_Engine_test_18 : decode b_Engine_test 18 = .ok (.ifCond .eq 23, 3) := by decide +kernel
theorem d_Engine_test_21 : decode b_Engine_test 21 = .ok (.iload_n 3, 1) := by decide +kernel
theorem d_Engine_test_22 : decode b_Engine_test 22 = .ok (.iconst 1, 1) := by decide +kernel
theorem d_Engine_test_23 : decode b_Engine_test 23 = .ok (.iconst 3, 1) := by decide +kernel
theorem d_Engine_test_24 : decode b_Engine_test 24 = .ok (.invokestatic 56, 3) := by decide +kernel
theorem d_Engine_test_27 : decode b_Engine_test 27 = .ok (.ifCond .eq 14, 3) := by decide +kernel
theorem d_Engine_test_30 : decode b_Engine_test 30 = .ok (.iload 4, 2) := by decide +kernel
theorem d_Engine_test_32 : decode b_Engine_test 32 = .ok (.iconst 1, 1) := by decide +kernel
theorem d_Engine_test_33 : decode b_Engine_test 33 = .ok (.bipush 50, 2) := by decide +kernel
theorem d_Engine_test_35 : decode b_Engine_test 35 = .ok (.invokestatic 56, 3) := by decide +kernel
theorem d_Engine_test_38 : decode b_Engine_test 38 = .ok (.ifCond .ne 5, 3) := by decide +kernel
theorem d_Engine_test_41 : decode b_Engine_test 41 = .ok (.iconst (-1), 1) := by decide +kernel
theorem d_Engine_test_42 : decode b_Engine_test 42 = .ok (.ireturn, 1) := by decide +kernel
theorem d_Engine_test_43 : decode b_Engine_test 43 = .ok (.aload_n 0, 1) := by decide +kernel
theorem d_Engine_test_44 : decode b_Engine_test 44 = .ok (.getfield 12, 3) := by decide +kernel
theorem d_Engine_test_47 : decode b_Engine_test 47 = .ok (.invokevirtual 60, 3) := by decide +kernel
theorem d_Engine_test_50 : decode b_Engine_test 50 = .ok (.ifCond .eq 6, 3) := by decide +kernel
theorem d_Engine_test_53 : decode b_Engine_test 53 = .ok (.bipush (-2), 2) := by decide +kernel
theorem d_Engine_test_55 : decode b_Engine_test 55 = .ok (.ireturn, 1) := by decide +kernel
theorem d_Engine_test_56 : decode b_Engine_test 56 = .ok (.aload_n 0, 1) := by decide +kernel
theorem d_Engine_test_57 : decode b_Engine_test 57 = .ok (.getfield 12, 3) := by decide +kernel
theorem d_Engine_test_60 : decode b_Engine_test 60 = .ok (.iload_n 1, 1) := by decide +kernel
theorem d_Engine_test_61 : decode b_Engine_test 61 = .ok (.iload_n 2, 1) := by decide +kernel
theorem d_Engine_test_62 : decode b_Engine_test 62 = .ok (.iload_n 3, 1) := by decide +kernel
theorem d_Engine_test_63 : decode b_Engine_test 63 = .ok (.iload 4, 2) := by decide +kernel
theorem d_Engine_test_65 : decode b_Engine_test 65 = .ok (.invokevirtual 68, 3) := by decide +kernel
theorem d_Engine_test_68 : decode b_Engine_test 68 = .ok (.istore 5, 2) := by decide +kernel
theorem d_Engine_test_70 : decode b_Engine_test 70 = .ok (.aload_n 0, 1) := by decide +kernel
theorem d_Engine_test_71 : decode b_Engine_test 71 = .ok (.getfield 19, 3) := by decide +kernel
theorem d_Engine_test_74 : decode b_Engine_test 74 = .ok (.iload 5, 2) := by decide +kernel
theorem d_Engine_test_76 : decode b_Engine_test 76 = .ok (.iload_n 3, 1) := by decide +kernel
theorem d_Engine_test_77 : decode b_Engine_test 77 = .ok (.invokevirtual 72, 3) := by decide +kernel
theorem d_Engine_test_80 : decode b_Engine_test 80 = .ok (.iload 5, 2) := by decide +kernel
theorem d_Engine_test_82 : decode b_Engine_test 82 = .ok (.ireturn, 1) := by decide +kernel
theorem d_Engine_mark_0 : decode b_Engine_mark 0 = .ok (.aload_n 0, 1) := by decide +kernel
theorem d_Engine_mark_1 : decode b_Engine_mark 1 = .ok (.getfield 12, 3) := by decide +kernel
theorem d_Engine_mark_4 : decode b_Engine_mark 4 = .ok (.iload_n 1, 1) := by decide +kernel
theorem d_Engine_mark_5 : decode b_Engine_mark 5 = .ok (.invokevirtual 76, 3) := by decide +kernel
theorem d_Engine_mark_8 : decode b_Engine_mark 8 = .ok (.ifCond .eq 14, 3) := by decide +kernel
theorem d_Engine_mark_11 : decode b_Engine_mark 11 = .ok (.iload_n 2, 1) := by decide +kernel
theorem d_Engine_mark_12 : decode b_Engine_mark 12 = .ok (.iconst 0, 1) := by decide +kernel
theorem d_Engine_mark_13 : decode b_Engine_mark 13 = .ok (.sipush 255, 3) := by decide +kernel
theorem d_Engine_mark_16 : decode b_Engine_mark 16 = .ok (.invokestatic 56, 3) := by decide +kernel
theorem d_Engine_mark_19 : decode b_Engine_mark 19 = .ok (.ifCond .ne 5, 3) := by decide +kernel
theorem d_Engine_mark_22 : decode b_Engine_mark 22 = .ok (.iconst (-1), 1) := by decide +kernel
theorem d_Engine_mark_23 : decode b_Engine_mark 23 = .ok (.ireturn, 1) := by decide +kernel
theorem d_Engine_mark_24 : decode b_Engine_mark 24 = .ok (.aload_n 0, 1) := by decide +kernel
theorem d_Engine_mark_25 : decode b_Engine_mark 25 = .ok (.getfield 12, 3) := by decide +kernel
theorem d_Engine_mark_28 : decode b_Engine_mark 28 = .ok (.iload_n 1, 1) := by decide +kernel
theorem d_Engine_mark_29 : decode b_Engine_mark 29 = .ok (.iload_n 2, 1) := by decide +kernel
theorem d_Engine_mark_30 : decode b_Engine_mark 30 = .ok (.iload_n 3, 1) := by decide +kernel
theorem d_Engine_mark_31 : decode b_Engine_mark 31 = .ok (.invokevirtual 79, 3) := by decide +kernel
theorem d_Engine_mark_34 : decode b_Engine_mark 34 = .ok (.iconst 0, 1) := by decide +kernel
theorem d_Engine_mark_35 : decode b_Engine_mark 35 = .ok (.ireturn, 1) := by decide +kernel
theorem d_Engine_method_0 : decode b_Engine_method 0 = .ok (.aload_n 0, 1) := by decide +kernel
theorem d_Engine_method_1 : decode b_Engine_method 1 = .ok (.getfield 12, 3) := by decide +kernel
theorem d_Engine_method_4 : decode b_Engine_method 4 = .ok (.iload_n 1, 1) := by decide +kernel
theorem d_Engine_method_5 : decode b_Engine_method 5 = .ok (.iload_n 2, 1) := by decide +kernel
theorem d_Engine_method_6 : decode b_Engine_method 6 = .ok (.invokevirtual 83, 3) := by decide +kernel
theorem d_Engine_method_9 : decode b_Engine_method 9 = .ok (.ifCond .eq 34, 3) := by decide +kernel
theorem d_Engine_method_12 : decode b_Engine_method 12 = .ok (.iload_n 3, 1) := by decide +kernel
theorem d_Engine_method_13 : decode b_Engine_method 13 = .ok (.iconst 0, 1) := by decide +kernel
theorem d_Engine_method_14 : decode b_Engine_method 14 = .ok (.iconst 2, 1) := by decide +kernel
theorem d_Engine_method_15 : decode b_Engine_method 15 = .ok (.invokestatic 56, 3) := by decide +kernel
theorem d_Engine_method_18 : decode b_Engine_method 18 = .ok (.ifCond .eq 25, 3) := by decide +kernel
theorem d_Engine_method_21 : decode b_Engine_method 21 = .ok (.iload 4, 2) := by decide +kernel
theorem d_Engine_method_23 : decode b_Engine_method 23 = .ok (.iconst 0, 1) := by decide +kernel
theorem d_Engine_method_24 : decode b_Engine_method 24 = .ok (.bipush 99, 2) := by decide +kernel
theorem d_Engine_method_26 : decode b_Engine_method 26 = .ok (.invokestatic 56, 3) := by decide +kernel
theorem d_Engine_method_29 : decode b_Engine_method 29 = .ok (.ifCond .eq 14, 3) := by decide +kernel
theorem d_Engine_method_32 : decode b_Engine_method 32 = .ok (.iload 5, 2) := by decide +kernel
theorem d_Engine_method_34 : decode b_Engine_method 34 = .ok (.iconst 0, 1) := by decide +kernel
theorem d_Engine_method_35 : decode b_Engine_method 35 = .ok (.bipush 50, 2) := by decide +kernel
theorem d_Engine_method_37 : decode b_Engine_method 37 = .ok (.invokestatic 56, 3) := by decide +kernel
theorem d_Engine_method_40 : decode b_Engine_method 40 = .ok (.ifCond .ne 5, 3) := by decide +kernel
theorem d_Engine_method_43 : decode b_Engine_method 43 = .ok (.iconst (-1), 1) := by decide +kernel
theorem d_Engine_method_44 : decode b_Engine_method 44 = .ok (.ireturn, 1) := by decide +kernel
theorem d_Engine_method_45 : decode b_Engine_method 45 = .ok (.aload_n 0, 1) := by decide +kernel
theorem d_Engine_method_46 : decode b_Engine_method 46 = .ok (.getfield 19, 3) := by decide +kernel
theorem d_Engine_method_49 : decode b_Engine_method 49 = .ok (.iload_n 1, 1) := by decide +kernel
theorem d_Engine_method_50 : decode b_Engine_method 50 = .ok (.iload_n 2, 1) := by decide +kernel
theorem d_Engine_method_51 : decode b_Engine_method 51 = .ok (.iload_n 3, 1) := by decide +kernel
theorem d_Engine_method_52 : decode b_Engine_method 52 = .ok (.iload 4, 2) := by decide +kernel
theorem d_Engine_method_54 : decode b_Engine_method 54 = .ok (.iload 5, 2) := by decide +kernel
theorem d_Engine_method_56 : decode b_Engine_method 56 = .ok (.invokevirtual 87, 3) := by decide +kernel
theorem d_Engine_method_59 : decode b_Engine_method 59 = .ok (.iconst 0, 1) := by decide +kernel
theorem d_Engine_method_60 : decode b_Engine_method 60 = .ok (.ireturn, 1) := by decide +kernel
theorem d_Engine_without_0 : decode b_Engine_without 0 = .ok (.aload_n 0, 1) := by decide +kernel
theorem d_Engine_without_1 : decode b_Engine_without 1 = .ok (.getfield 12, 3) := by decide +kernel
theorem d_Engine_without_4 : decode b_Engine_without 4 = .ok (.iload_n 1, 1) := by decide +kernel
theorem d_Engine_without_5 : decode b_Engine_without 5 = .ok (.invokevirtual 48, 3) := by decide +kernel
theorem d_Engine_without_8 : decode b_Engine_without 8 = .ok (.ifCond .eq 15, 3) := by decide +kernel
theorem d_Engine_without_11 : decode b_Engine_without 11 = .ok (.aload_n 0, 1) := by decide +kernel
theorem d_Engine_without_12 : decode b_Engine_without 12 = .ok (.getfield 12, 3) := by decide +kernel
theorem d_Engine_without_15 : decode b_Engine_without 15 = .ok (.iload_n 1, 1) := by decide +kernel
theorem d_Engine_without_16 : decode b_Engine_without 16 = .ok (.iload_n 2, 1) := by decide +kernel
theorem d_Engine_without_17 : decode b_Engine_without 17 = .ok (.invokevirtual 83, 3) := by decide +kernel
theorem d_Engine_without_20 : decode b_Engine_without 20 = .ok (.ifCond .ne 5, 3) := by decide +kernel
theorem d_Engine_without_23 : decode b_Engine_without 23 = .ok (.iconst (-1), 1) := by decide +kernel
theorem d_Engine_without_24 : decode b_Engine_without 24 = .ok (.ireturn, 1) := by decide +kernel
theorem d_Engine_without_25 : decode b_Engine_without 25 = .ok (.iload_n 1, 1) := by decide +kernel
theorem d_Engine_without_26 : decode b_Engine_without 26 = .ok (.iload_n 2, 1) := by decide +kernel
theorem d_Engine_without_27 : decode b_Engine_without 27 = .ok (.invokestatic 91, 3) := by decide +kernel
theorem d_Engine_without_30 : decode b_Engine_without 30 = .ok (.istore_n 3, 1) := by decide +kernel
theorem d_Engine_without_31 : decode b_Engine_without 31 = .ok (.aload_n 0, 1) := by decide +kernel
theorem d_Engine_without_32 : decode b_Engine_without 32 = .ok (.getfield 19, 3) := by decide +kernel
theorem d_Engine_without_35 : decode b_Engine_without 35 = .ok (.iload_n 3, 1) := by decide +kernel
theorem d_Engine_without_36 : decode b_Engine_without 36 = .ok (.invokevirtual 95, 3) := by decide +kernel
theorem d_Engine_without_39 : decode b_Engine_without 39 = .ok (.ifCond .ne 5, 3) := by decide +kernel
theorem d_Engine_without_42 : decode b_Engine_without 42 = .ok (.iconst (-1), 1) := by decide +kernel
theorem d_Engine_without_43 : decode b_Engine_without 43 = .ok (.ireturn, 1) := by decide +kernel
theorem d_Engine_without_44 : decode b_Engine_without 44 = .ok (.aload_n 0, 1) := by decide +kernel
theorem d_Engine_without_45 : decode b_Engine_without 45 = .ok (.getfield 19, 3) := by decide +kernel
theorem d_Engine_without_48 : decode b_Engine_without 48 = .ok (.iload_n 3, 1) := by decide +kernel
theorem d_Engine_without_49 : decode b_Engine_without 49 = .ok (.invokevirtual 98, 3) := by decide +kernel
theorem d_Engine_without_52 : decode b_Engine_without 52 = .ok (.iconst 0, 1) := by decide +kernel
theorem d_Engine_without_53 : decode b_Engine_without 53 = .ok (.ireturn, 1) := by decide +kernel
theorem d_Engine_run_0 : decode b_Engine_run 0 = .ok (.iload_n 1, 1) := by decide +kernel
theorem d_Engine_run_1 : decode b_Engine_run 1 = .ok (.iconst 0, 1) := by decide +kernel
theorem d_Engine_run_2 : decode b_Engine_run 2 = .ok (.sipush 255, 3) := by decide +kernel
theorem d_Engine_run_5 : decode b_Engine_run 5 = .ok (.invokestatic 56, 3) := by decide +kernel
theorem d_Engine_run_8 : decode b_Engine_run 8 = .ok (.ifCond .eq 24, 3) := by decide +kernel
theorem d_Engine_run_11 : decode b_Engine_run 11 = .ok (.iload_n 2, 1) := by decide +kernel
theorem d_Engine_run_12 : decode b_Engine_run 12 = .ok (.iconst 0, 1) := by decide +kernel
theorem d_Engine_run_13 : decode b_Engine_run 13 = .ok (.sipush 255, 3) := by decide +kernel
theorem d_Engine_run_16 : decode b_Engine_run 16 = .ok (.invokestatic 56, 3) := by decide +kernel
theorem d_Engine_run_19 : decode b_Engine_run 19 = .ok (.ifCond .eq 13, 3) := by decide +kernel
theorem d_Engine_run_22 : decode b_Engine_run 22 = .ok (.iload_n 3, 1) := by decide +kernel
theorem d_Engine_run_23 : decode b_Engine_run 23 = .ok (.iconst 0, 1) := by decide +kernel
theorem d_Engine_run_24 : decode b_Engine_run 24 = .ok (.bipush 9, 2) := by decide +kernel
theorem d_Engine_run_26 : decode b_Engine_run 26 = .ok (.invokestatic 56, 3) := by decide +kernel
theorem d_Engine_run_29 : decode b_Engine_run 29 = .ok (.ifCond .ne 5, 3) := by decide +kernel
theorem d_Engine_run_32 : decode b_Engine_run 32 = .ok (.iconst (-1), 1) := by decide +kernel
theorem d_Engine_run_33 : decode b_Engine_run 33 = .ok (.ireturn, 1) := by decide +kernel
theorem d_Engine_run_34 : decode b_Engine_run 34 = .ok (.aload_n 0, 1) := by decide +kernel
theorem d_Engine_run_35 : decode b_Engine_run 35 = .ok (.getfield 28, 3) := by decide +kernel
theorem d_Engine_run_38 : decode b_Engine_run 38 = .ok (.iload_n 1, 1) := by decide +kernel
theorem d_Engine_run_39 : decode b_Engine_run 39 = .ok (.iload_n 2, 1) := by decide +kernel
theorem d_Engine_run_40 : decode b_Engine_run 40 = .ok (.invokevirtual 102, 3) := by decide +kernel
theorem d_Engine_run_43 : decode b_Engine_run 43 = .ok (.aload_n 0, 1) := by decide +kernel
theorem d_Engine_run_44 : decode b_Engine_run 44 = .ok (.getfield 35, 3) := by decide +kernel
theorem d_Engine_run_47 : decode b_Engine_run 47 = .ok (.invokevirtual 105, 3) := by decide +kernel
theorem d_Engine_run_50 : decode b_Engine_run 50 = .ok (.aload_n 0, 1) := by decide +kernel
theorem d_Engine_run_51 : decode b_Engine_run 51 = .ok (.getfield 44, 3) := by decide +kernel
theorem d_Engine_run_54 : decode b_Engine_run 54 = .ok (.iload_n 3, 1) := by decide +kernel
theorem d_Engine_run_55 : decode b_Engine_run 55 = .ok (.invokevirtual 108, 3) := by decide +kernel
theorem d_Engine_run_58 : decode b_Engine_run 58 = .ok (.aload_n 0, 1) := by decide +kernel
theorem d_Engine_run_59 : decode b_Engine_run 59 = .ok (.getfield 44, 3) := by decide +kernel
theorem d_Engine_run_62 : decode b_Engine_run 62 = .ok (.iconst 0, 1) := by decide +kernel
theorem d_Engine_run_63 : decode b_Engine_run 63 = .ok (.iconst 0, 1) := by decide +kernel
theorem d_Engine_run_64 : decode b_Engine_run 64 = .ok (.invokevirtual 111, 3) := by decide +kernel
theorem d_Engine_run_67 : decode b_Engine_run 67 = .ok (.aload_n 0, 1) := by decide +kernel
theorem d_Engine_run_68 : decode b_Engine_run 68 = .ok (.getfield 35, 3) := by decide +kernel
theorem d_Engine_run_71 : decode b_Engine_run 71 = .ok (.invokevirtual 114, 3) := by decide +kernel
theorem d_Engine_run_74 : decode b_Engine_run 74 = .ok (.ifCond .eq 7, 3) := by decide +kernel
theorem d_Engine_run_77 : decode b_Engine_run 77 = .ok (.iconst 1, 1) := by decide +kernel
theorem d_Engine_run_78 : decode b_Engine_run 78 = .ok (.goto 4, 3) := by decide +kernel
theorem d_Engine_run_81 : decode b_Engine_run 81 = .ok (.iconst 0, 1) := by decide +kernel
theorem d_Engine_run_82 : decode b_Engine_run 82 = .ok (.ireturn, 1) := by decide +kernel
theorem d_Engine_event_0 : decode b_Engine_event 0 = .ok (.aload_n 0, 1) := by decide +kernel
theorem d_Engine_event_1 : decode b_Engine_event 1 = .ok (.getfield 35, 3) := by decide +kernel
theorem d_Engine_event_4 : decode b_Engine_event 4 = .ok (.iload_n 1, 1) := by decide +kernel
theorem d_Engine_event_5 : decode b_Engine_event 5 = .ok (.iload_n 2, 1) := by decide +kernel
theorem d_Engine_event_6 : decode b_Engine_event 6 = .ok (.invokevirtual 117, 3) := by decide +kernel
theorem d_Engine_event_9 : decode b_Engine_event 9 = .ok (.ireturn, 1) := by decide +kernel
theorem d_Engine_trouble_0 : decode b_Engine_trouble 0 = .ok (.aload_n 0, 1) := by decide +kernel
theorem d_Engine_trouble_1 : decode b_Engine_trouble 1 = .ok (.getfield 35, 3) := by decide +kernel
theorem d_Engine_trouble_4 : decode b_Engine_trouble 4 = .ok (.iload_n 1, 1) := by decide +kernel
theorem d_Engine_trouble_5 : decode b_Engine_trouble 5 = .ok (.iload_n 2, 1) := by decide +kernel
theorem d_Engine_trouble_6 : decode b_Engine_trouble 6 = .ok (.invokevirtual 120, 3) := by decide +kernel
theorem d_Engine_trouble_9 : decode b_Engine_trouble 9 = .ok (.ireturn, 1) := by decide +kernel
theorem d_Engine_count_0 : decode b_Engine_count 0 = .ok (.iload_n 1, 1) := by decide +kernel
theorem d_Engine_count_1 : decode b_Engine_count 1 = .ok (.tableswitch 150 0 10 #[59, 67, 75, 84, 93, 102, 110, 118, 126, 134, 142], 59) := by decide +kernel
theorem d_Engine_count_60 : decode b_Engine_count 60 = .ok (.aload_n 0, 1) := by decide +kernel
theorem d_Engine_count_61 : decode b_Engine_count 61 = .ok (.getfield 12, 3) := by decide +kernel
theorem d_Engine_count_64 : decode b_Engine_count 64 = .ok (.invokevirtual 123, 3) := by decide +kernel
theorem d_Engine_count_67 : decode b_Engine_count 67 = .ok (.ireturn, 1) := by decide +kernel
theorem d_Engine_count_68 : decode b_Engine_count 68 = .ok (.aload_n 0, 1) := by decide +kernel
theorem d_Engine_count_69 : decode b_Engine_count 69 = .ok (.getfield 35, 3) := by decide +kernel
theorem d_Engine_count_72 : decode b_Engine_count 72 = .ok (.invokevirtual 127, 3) := by decide +kernel
theorem d_Engine_count_75 : decode b_Engine_count 75 = .ok (.ireturn, 1) := by decide +kernel
theorem d_Engine_count_76 : decode b_Engine_count 76 = .ok (.aload_n 0, 1) := by decide +kernel
theorem d_Engine_count_77 : decode b_Engine_count 77 = .ok (.getfield 35, 3) := by decide +kernel
theorem d_Engine_count_80 : decode b_Engine_count 80 = .ok (.iconst 0, 1) := by decide +kernel
theorem d_Engine_count_81 : decode b_Engine_count 81 = .ok (.invokevirtual 130, 3) := by decide +kernel
theorem d_Engine_count_84 : decode b_Engine_count 84 = .ok (.ireturn, 1) := by decide +kernel
theorem d_Engine_count_85 : decode b_Engine_count 85 = .ok (.aload_n 0, 1) := by decide +kernel
theorem d_Engine_count_86 : decode b_Engine_count 86 = .ok (.getfield 35, 3) := by decide +kernel
theorem d_Engine_count_89 : decode b_Engine_count 89 = .ok (.iconst 1, 1) := by decide +kernel
theorem d_Engine_count_90 : decode b_Engine_count 90 = .ok (.invokevirtual 130, 3) := by decide +kernel
theorem d_Engine_count_93 : decode b_Engine_count 93 = .ok (.ireturn, 1) := by decide +kernel
theorem d_Engine_count_94 : decode b_Engine_count 94 = .ok (.aload_n 0, 1) := by decide +kernel
theorem d_Engine_count_95 : decode b_Engine_count 95 = .ok (.getfield 35, 3) := by decide +kernel
theorem d_Engine_count_98 : decode b_Engine_count 98 = .ok (.iconst 2, 1) := by decide +kernel
theorem d_Engine_count_99 : decode b_Engine_count 99 = .ok (.invokevirtual 130, 3) := by decide +kernel
theorem d_Engine_count_102 : decode b_Engine_count 102 = .ok (.ireturn, 1) := by decide +kernel
theorem d_Engine_count_103 : decode b_Engine_count 103 = .ok (.aload_n 0, 1) := by decide +kernel
theorem d_Engine_count_104 : decode b_Engine_count 104 = .ok (.getfield 35, 3) := by decide +kernel
theorem d_Engine_count_107 : decode b_Engine_count 107 = .ok (.invokevirtual 133, 3) := by decide +kernel
theorem d_Engine_count_110 : decode b_Engine_count 110 = .ok (.ireturn, 1) := by decide +kernel
theorem d_Engine_count_111 : decode b_Engine_count 111 = .ok (.aload_n 0, 1) := by decide +kernel
theorem d_Engine_count_112 : decode b_Engine_count 112 = .ok (.getfield 35, 3) := by decide +kernel
theorem d_Engine_count_115 : decode b_Engine_count 115 = .ok (.invokevirtual 136, 3) := by decide +kernel
theorem d_Engine_count_118 : decode b_Engine_count 118 = .ok (.ireturn, 1) := by decide +kernel
theorem d_Engine_count_119 : decode b_Engine_count 119 = .ok (.aload_n 0, 1) := by decide +kernel
theorem d_Engine_count_120 : decode b_Engine_count 120 = .ok (.getfield 44, 3) := by decide +kernel
theorem d_Engine_count_123 : decode b_Engine_count 123 = .ok (.invokevirtual 139, 3) := by decide +kernel
theorem d_Engine_count_126 : decode b_Engine_count 126 = .ok (.ireturn, 1) := by decide +kernel
theorem d_Engine_count_127 : decode b_Engine_count 127 = .ok (.aload_n 0, 1) := by decide +kernel
theorem d_Engine_count_128 : decode b_Engine_count 128 = .ok (.getfield 44, 3) := by decide +kernel
theorem d_Engine_count_131 : decode b_Engine_count 131 = .ok (.invokevirtual 142, 3) := by decide +kernel
theorem d_Engine_count_134 : decode b_Engine_count 134 = .ok (.ireturn, 1) := by decide +kernel
theorem d_Engine_count_135 : decode b_Engine_count 135 = .ok (.aload_n 0, 1) := by decide +kernel
theorem d_Engine_count_136 : decode b_Engine_count 136 = .ok (.getfield 44, 3) := by decide +kernel
theorem d_Engine_count_139 : decode b_Engine_count 139 = .ok (.invokevirtual 145, 3) := by decide +kernel
theorem d_Engine_count_142 : decode b_Engine_count 142 = .ok (.ireturn, 1) := by decide +kernel
theorem d_Engine_count_143 : decode b_Engine_count 143 = .ok (.aload_n 0, 1) := by decide +kernel
theorem d_Engine_count_144 : decode b_Engine_count 144 = .ok (.getfield 28, 3) := by decide +kernel
theorem d_Engine_count_147 : decode b_Engine_count 147 = .ok (.invokevirtual 148, 3) := by decide +kernel
theorem d_Engine_count_150 : decode b_Engine_count 150 = .ok (.ireturn, 1) := by decide +kernel
theorem d_Engine_count_151 : decode b_Engine_count 151 = .ok (.sipush (-1000), 3) := by decide +kernel
theorem d_Engine_count_154 : decode b_Engine_count 154 = .ok (.ireturn, 1) := by decide +kernel
theorem d_Engine_isWithin_0 : decode b_Engine_isWithin 0 = .ok (.iload_n 1, 1) := by decide +kernel
theorem d_Engine_isWithin_1 : decode b_Engine_isWithin 1 = .ok (.iload_n 0, 1) := by decide +kernel
theorem d_Engine_isWithin_2 : decode b_Engine_isWithin 2 = .ok (.if_icmp .gt 12, 3) := by decide +kernel
theorem d_Engine_isWithin_5 : decode b_Engine_isWithin 5 = .ok (.iload_n 0, 1) := by decide +kernel
theorem d_Engine_isWithin_6 : decode b_Engine_isWithin 6 = .ok (.iload_n 2, 1) := by decide +kernel
theorem d_Engine_isWithin_7 : decode b_Engine_isWithin 7 = .ok (.if_icmp .gt 7, 3) := by decide +kernel
theorem d_Engine_isWithin_10 : decode b_Engine_isWithin 10 = .ok (.iconst 1, 1) := by decide +kernel
theorem d_Engine_isWithin_11 : decode b_Engine_isWithin 11 = .ok (.goto 4, 3) := by decide +kernel
theorem d_Engine_isWithin_14 : decode b_Engine_isWithin 14 = .ok (.iconst 0, 1) := by decide +kernel
theorem d_Engine_isWithin_15 : decode b_Engine_isWithin 15 = .ok (.ireturn, 1) := by decide +kernel
theorem d_Model_init_0 : decode b_Model_init 0 = .ok (.aload_n 0, 1) := by decide +kernel
theorem d_Model_init_1 : decode b_Model_init 1 = .ok (.invokespecial 1, 3) := by decide +kernel
theorem d_Model_init_4 : decode b_Model_init 4 = .ok (.aload_n 0, 1) := by decide +kernel
theorem d_Model_init_5 : decode b_Model_init 5 = .ok (.bipush 24, 2) := by decide +kernel
theorem d_Model_init_7 : decode b_Model_init 7 = .ok (.newarray .int, 2) := by decide +kernel
theorem d_Model_init_9 : decode b_Model_init 9 = .ok (.putfield 7, 3) := by decide +kernel
theorem d_Model_init_12 : decode b_Model_init 12 = .ok (.aload_n 0, 1) := by decide +kernel
theorem d_Model_init_13 : decode b_Model_init 13 = .ok (.bipush 24, 2) := by decide +kernel
theorem d_Model_init_15 : decode b_Model_init 15 = .ok (.newarray .int, 2) := by decide +kernel
theorem d_Model_init_17 : decode b_Model_init 17 = .ok (.putfield 13, 3) := by decide +kernel
theorem d_Model_init_20 : decode b_Model_init 20 = .ok (.aload_n 0, 1) := by decide +kernel
theorem d_Model_init_21 : decode b_Model_init 21 = .ok (.bipush 24, 2) := by decide +kernel
theorem d_Model_init_23 : decode b_Model_init 23 = .ok (.newarray .int, 2) := by decide +kernel
theorem d_Model_init_25 : decode b_Model_init 25 = .ok (.putfield 16, 3) := by decide +kernel
theorem d_Model_init_28 : decode b_Model_init 28 = .ok (.aload_n 0, 1) := by decide +kernel
theorem d_Model_init_29 : decode b_Model_init 29 = .ok (.bipush 24, 2) := by decide +kernel
theorem d_Model_init_31 : decode b_Model_init 31 = .ok (.newarray .int, 2) := by decide +kernel
theorem d_Model_init_33 : decode b_Model_init 33 = .ok (.putfield 19, 3) := by decide +kernel
theorem d_Model_init_36 : decode b_Model_init 36 = .ok (.aload_n 0, 1) := by decide +kernel
theorem d_Model_init_37 : decode b_Model_init 37 = .ok (.bipush 24, 2) := by decide +kernel
theorem d_Model_init_39 : decode b_Model_init 39 = .ok (.newarray .int, 2) := by decide +kernel
theorem d_Model_init_41 : decode b_Model_init 41 = .ok (.putfield 22, 3) := by decide +kernel
theorem d_Model_init_44 : decode b_Model_init 44 = .ok (.aload_n 0, 1) := by decide +kernel
theorem d_Model_init_45 : decode b_Model_init 45 = .ok (.bipush 24, 2) := by decide +kernel
theorem d_Model_init_47 : decode b_Model_init 47 = .ok (.newarray .boolean, 2) := by decide +kernel
theorem d_Model_init_49 : decode b_Model_init 49 = .ok (.putfield 25, 3) := by decide +kernel
theorem d_Model_init_52 : decode b_Model_init 52 = .ok (.aload_n 0, 1) := by decide +kernel
theorem d_Model_init_53 : decode b_Model_init 53 = .ok (.bipush 24, 2) := by decide +kernel
theorem d_Model_init_55 : decode b_Model_init 55 = .ok (.newarray .boolean, 2) := by decide +kernel
theorem d_Model_init_57 : decode b_Model_init 57 = .ok (.putfield 29, 3) := by decide +kernel
theorem d_Model_init_60 : decode b_Model_init 60 = .ok (.aload_n 0, 1) := by decide +kernel
theorem d_Model_init_61 : decode b_Model_init 61 = .ok (.bipush 24, 2) := by decide +kernel
theorem d_Model_init_63 : decode b_Model_init 63 = .ok (.newarray .boolean, 2) := by decide +kernel
theorem d_Model_init_65 : decode b_Model_init 65 = .ok (.putfield 32, 3) := by decide +kernel
theorem d_Model_init_68 : decode b_Model_init 68 = .ok (.aload_n 0, 1) := by decide +kernel
theorem d_Model_init_69 : decode b_Model_init 69 = .ok (.sipush 168, 3) := by decide +kernel
theorem d_Model_init_72 : decode b_Model_init 72 = .ok (.newarray .boolean, 2) := by decide +kernel
theorem d_Model_init_74 : decode b_Model_init 74 = .ok (.putfield 35, 3) := by decide +kernel
theorem d_Model_init_77 : decode b_Model_init 77 = .ok (.aload_n 0, 1) := by decide +kernel
theorem d_Model_init_78 : decode b_Model_init 78 = .ok (.sipush 168, 3) := by decide +kernel
theorem d_Model_init_81 : decode b_Model_init 81 = .ok (.newarray .int, 2) := by decide +kernel
theorem d_Model_init_83 : decode b_Model_init 83 = .ok (.putfield 38, 3) := by decide +kernel
theorem d_Model_init_86 : decode b_Model_init 86 = .ok (.aload_n 0, 1) := by decide +kernel
theorem d_Model_init_87 : decode b_Model_init 87 = .ok (.sipush 168, 3) := by decide +kernel
theorem d_Model_init_90 : decode b_Model_init 90 = .ok (.newarray .int, 2) := by decide +kernel
theorem d_Model_init_92 : decode b_Model_init 92 = .ok (.putfield 41, 3) := by decide +kernel
theorem d_Model_init_95 : decode b_Model_init 95 = .ok (.aload_n 0, 1) := by decide +kernel
theorem d_Model_init_96 : decode b_Model_init 96 = .ok (.sipush 168, 3) := by decide +kernel
theorem d_Model_init_99 : decode b_Model_init 99 = .ok (.newarray .int, 2) := by decide +kernel
theorem d_Model_init_101 : decode b_Model_init 101 = .ok (.putfield 44, 3) := by decide +kernel
theorem d_Model_init_104 : decode b_Model_init 104 = .ok (.aload_n 0, 1) := by decide +kernel
theorem d_Model_init_105 : decode b_Model_init 105 = .ok (.iconst 1, 1) := by decide +kernel
theorem d_Model_init_106 : decode b_Model_init 106 = .ok (.putfield 47, 3) := by decide +kernel
theorem d_Model_init_109 : decode b_Model_init 109 = .ok (.aload_n 0, 1) := by decide +kernel
theorem d_Model_init_110 : decode b_Model_init 110 = .ok (.iconst 5, 1) := by decide +kernel
theorem d_Model_init_111 : decode b_Model_init 111 = .ok (.newarray .int, 2) := by decide +kernel
theorem d_Model_init_113 : decode b_Model_init 113 = .ok (.putfield 51, 3) := by decide +kernel
theorem d_Model_init_116 : decode b_Model_init 116 = .ok (.aload_n 0, 1) := by decide +kernel
theorem d_Model_init_117 : decode b_Model_init 117 = .ok (.iconst 5, 1) := by decide +kernel
theorem d_Model_init_118 : decode b_Model_init 118 = .ok (.newarray .int, 2) := by decide +kernel
theorem d_Model_init_120 : decode b_Model_init 120 = .ok (.putfield 54, 3) := by decide +kernel
theorem d_Model_init_123 : decode b_Model_init 123 = .ok (.aload_n 0, 1) := by decide +kernel
theorem d_Model_init_124 : decode b_Model_init 124 = .ok (.bipush 24, 2) := by decide +kernel
theorem d_Model_init_126 : decode b_Model_init 126 = .ok (.newarray .int, 2) := by decide +kernel
theorem d_Model_init_128 : decode b_Model_init 128 = .ok (.putfield 57, 3) := by decide +kernel
theorem d_Model_init_131 : decode b_Model_init 131 = .ok (.aload_n 0, 1) := by decide +kernel
theorem d_Model_init_132 : decode b_Model_init 132 = .ok (.bipush 20, 2) := by decide +kernel
theorem d_Model_init_134 : decode b_Model_init 134 = .ok (.newarray .int, 2) := by decide +kernel
theorem d_Model_init_136 : decode b_Model_init 136 = .ok (.putfield 60, 3) := by decide +kernel
theorem d_Model_init_139 : decode b_Model_init 139 = .ok (.aload_n 0, 1) := by decide +kernel
theorem d_Model_init_140 : decode b_Model_init 140 = .ok (.bipush 20, 2) := by decide +kernel
theorem d_Model_init_142 : decode b_Model_init 142 = .ok (.newarray .int, 2) := by decide +kernel
theorem d_Model_init_144 : decode b_Model_init 144 = .ok (.putfield 63, 3) := by decide +kernel
theorem d_Model_init_147 : decode b_Model_init 147 = .ok (.aload_n 0, 1) := by decide +kernel
theorem d_Model_init_148 : decode b_Model_init 148 = .ok (.iconst 5, 1) := by decide +kernel
theorem d_Model_init_149 : decode b_Model_init 149 = .ok (.newarray .int, 2) := by decide +kernel
theorem d_Model_init_151 : decode b_Model_init 151 = .ok (.putfield 66, 3) := by decide +kernel
theorem d_Model_init_154 : decode b_Model_init 154 = .ok (.aload_n 0, 1) := by decide +kernel
theorem d_Model_init_155 : decode b_Model_init 155 = .ok (.sipush 1200, 3) := by decide +kernel
theorem d_Model_init_158 : decode b_Model_init 158 = .ok (.newarray .int, 2) := by decide +kernel
theorem d_Model_init_160 : decode b_Model_init 160 = .ok (.putfield 69, 3) := by decide +kernel
theorem d_Model_init_163 : decode b_Model_init 163 = .ok (.aload_n 0, 1) := by decide +kernel
theorem d_Model_init_164 : decode b_Model_init 164 = .ok (.sipush 600, 3) := by decide +kernel
theorem d_Model_init_167 : decode b_Model_init 167 = .ok (.newarray .int, 2) := by decide +kernel
theorem d_Model_init_169 : decode b_Model_init 169 = .ok (.putfield 72, 3) := by decide +kernel
theorem d_Model_init_172 : decode b_Model_init 172 = .ok (.aload_n 0, 1) := by decide +kernel
theorem d_Model_init_173 : decode b_Model_init 173 = .ok (.getfield 7, 3) := by decide +kernel
theorem d_Model_init_176 : decode b_Model_init 176 = .ok (.iconst 0, 1) := by decide +kernel
theorem d_Model_init_177 : decode b_Model_init 177 = .ok (.iconst (-1), 1) := by decide +kernel
theorem d_Model_init_178 : decode b_Model_init 178 = .ok (.iastore, 1) := by decide +kernel
theorem d_Model_init_179 : decode b_Model_init 179 = .ok (.return_, 1) := by decide +kernel
theorem d_Model_isNode_0 : decode b_Model_isNode 0 = .ok (.iload_n 1, 1) := by decide +kernel
theorem d_Model_isNode_1 : decode b_Model_isNode 1 = .ok (.ifCond .lt 15, 3) := by decide +kernel
theorem d_Model_isNode_4 : decode b_Model_isNode 4 = .ok (.iload_n 1, 1) := by decide +kernel
theorem d_Model_isNode_5 : decode b_Model_isNode 5 = .ok (.aload_n 0, 1) := by decide +kernel
theorem d_Model_isNode_6 : decode b_Model_isNode 6 = .ok (.getfield 47, 3) := by decide +kernel
theorem d_Model_isNode_9 : decode b_Model_isNode 9 = .ok (.if_icmp .ge 7, 3) := by decide +kernel
theorem d_Model_isNode_12 : decode b_Model_isNode 12 = .ok (.iconst 1, 1) := by decide +kernel
theorem d_Model_isNode_13 : decode b_Model_isNode 13 = .ok (.goto 4, 3) := by decide +kernel
theorem d_Model_isNode_16 : decode b_Model_isNode 16 = .ok (.iconst 0, 1) := by decide +kernel
theorem d_Model_isNode_17 : decode b_Model_isNode 17 = .ok (.ireturn, 1) := by decide +kernel
theorem d_Model_isContainer_0 : decode b_Model_isContainer 0 = .ok (.aload_n 0, 1) := by decide +kernel
theorem d_Model_isContainer_1 : decode b_Model_isContainer 1 = .ok (.iload_n 1, 1) := by decide +kernel
theorem d_Model_isContainer_2 : decode b_Model_isContainer 2 = .ok (.invokevirtual 75, 3) := by decide +kernel
theorem d_Model_isContainer_5 : decode b_Model_isContainer 5 = .ok (.ifCond .eq 16, 3) := by decide +kernel
theorem d_Model_isContainer_8 : decode b_Model_isContainer 8 = .ok (.aload_n 0, 1) := by decide +kernel
theorem d_Model_isContainer_9 : decode b_Model_isContainer 9 = .ok (.getfield 16, 3) := by decide +kernel
theorem d_Model_isContainer_12 : decode b_Model_isContainer 12 = .ok (.iload_n 1, 1) := by decide +kernel
theorem d_Model_isContainer_13 : decode b_Model_isContainer 13 = .ok (.iaload, 1) := by decide +kernel
theorem d_Model_isContainer_14 : decode b_Model_isContainer 14 = .ok (.ifCond .ne 7, 3) := by decide +kernel
theorem d_Model_isContainer_17 : decode b_Model_isContainer 17 = .ok (.iconst 1, 1) := by decide +kernel
theorem d_Model_isContainer_18 : decode b_Model_isContainer 18 = .ok (.goto 4, 3) := by decide +kernel
theorem d_Model_isContainer_21 : decode b_Model_isContainer 21 = .ok (.iconst 0, 1) := by decide +kernel
theorem d_Model_isContainer_22 : decode b_Model_isContainer 22 = .ok (.ireturn, 1) := by decide +kernel
theorem d_Model_depth_0 : decode b_Model_depth 0 = .ok (.iconst 0, 1) := by decide +kernel
theorem d_Model_depth_1 : decode b_Model_depth 1 = .ok (.istore_n 2, 1) := by decide +kernel
theorem d_Model_depth_2 : decode b_Model_depth 2 = .ok (.iload_n 1, 1) := by decide +kernel
theorem d_Model_depth_3 : decode b_Model_depth 3 = .ok (.istore_n 3, 1) := by decide +kernel
theorem d_Model_depth_4 : decode b_Model_depth 4 = .ok (.aload_n 0, 1) := by decide +kernel
theorem d_Model_depth_5 : decode b_Model_depth 5 = .ok (.getfield 7, 3) := by decide +kernel
theorem d_Model_depth_8 : decode b_Model_depth 8 = .ok (.iload_n 3, 1) := by decide +kernel
theorem d_Model_depth_9 : decode b_Model_depth 9 = .ok (.iaload, 1) := by decide +kernel
theorem d_Model_depth_10 : decode b_Model_depth 10 = .ok (.ifCond .lt 16, 3) := by decide +kernel
theorem d_Model_depth_13 : decode b_Model_depth 13 = .ok (.iinc 2 1, 3) := by decide +kernel
theorem d_Model_depth_16 : decode b_Model_depth 16 = .ok (.aload_n 0, 1) := by decide +kernel
theorem d_Model_depth_17 : decode b_Model_depth 17 = .ok (.getfield 7, 3) := by decide +kernel
theorem d_Model_depth_20 : decode b_Model_depth 20 = .ok (.iload_n 3, 1) := by decide +kernel
theorem d_Model_depth_21 : decode b_Model_depth 21 = .ok (.iaload, 1) := by decide +kernel
theorem d_Model_depth_22 : decode b_Model_depth 22 = .ok (.istore_n 3, 1) := by decide +kernel
end
section
theorem d_Model_depth_23 : decode b_Model_depth 23 = .ok (.goto (-19), 3) := by decide +kernel
theorem d_Model_depth_26 : decode b_Model_depth 26 = .ok (.iload_n 2, 1) := by decide +kernel
theorem d_Model_depth_27 : decode b_Model_depth 27 = .ok (.ireturn, 1) := by decide +kernel
theorem d_Model_add_0 : decode b_Model_add 0 = .ok (.aload_n 0, 1) := by decide +kernel
theorem d_Model_add_1 : decode b_Model_add 1 = .ok (.getfield 47, 3) := by decide +kernel
theorem d_Model_add_4 : decode b_Model_add 4 = .ok (.bipush 24, 2) := by decide +kernel
theorem d_Model_add_6 : decode b_Model_add 6 = .ok (.if_icmp .ne 6, 3) := by decide +kernel
theorem d_Model_add_9 : decode b_Model_add 9 = .ok (.bipush (-2), 2) := by decide +kernel
theorem d_Model_add_11 : decode b_Model_add 11 = .ok (.ireturn, 1) := by decide +kernel
theorem d_Model_add_12 : decode b_Model_add 12 = .ok (.aload_n 0, 1) := by decide +kernel
theorem d_Model_add_13 : decode b_Model_add 13 = .ok (.getfield 7, 3) := by decide +kernel
theorem d_Model_add_16 : decode b_Model_add 16 = .ok (.aload_n 0, 1) := by decide +kernel
theorem d_Model_add_17 : decode b_Model_add 17 = .ok (.getfield 47, 3) := by decide +kernel
theorem d_Model_add_20 : decode b_Model_add 20 = .ok (.iload_n 1, 1) := by decide +kernel
theorem d_Model_add_21 : decode b_Model_add 21 = .ok (.iastore, 1) := by decide +kernel
theorem d_Model_add_22 : decode b_Model_add 22 = .ok (.aload_n 0, 1) := by decide +kernel
theorem d_Model_add_23 : decode b_Model_add 23 = .ok (.getfield 13, 3) := by decide +kernel
theorem d_Model_add_26 : decode b_Model_add 26 = .ok (.aload_n 0, 1) := by decide +kernel
theorem d_Model_add_27 : decode b_Model_add 27 = .ok (.getfield 47, 3) := by decide +kernel
theorem d_Model_add_30 : decode b_Model_add 30 = .ok (.iload_n 2, 1) := by decide +kernel
theorem d_Model_add_31 : decode b_Model_add 31 = .ok (.iastore, 1) := by decide +kernel
theorem d_Model_add_32 : decode b_Model_add 32 = .ok (.aload_n 0, 1) := by decide +kernel
theorem d_Model_add_33 : decode b_Model_add 33 = .ok (.getfield 16, 3) := by decide +kernel
theorem d_Model_add_36 : decode b_Model_add 36 = .ok (.aload_n 0, 1) := by decide +kernel
theorem d_Model_add_37 : decode b_Model_add 37 = .ok (.getfield 47, 3) := by decide +kernel
theorem d_Model_add_40 : decode b_Model_add 40 = .ok (.iload_n 3, 1) := by decide +kernel
theorem d_Model_add_41 : decode b_Model_add 41 = .ok (.iastore, 1) := by decide +kernel
theorem d_Model_add_42 : decode b_Model_add 42 = .ok (.aload_n 0, 1) := by decide +kernel
theorem d_Model_add_43 : decode b_Model_add 43 = .ok (.getfield 19, 3) := by decide +kernel
theorem d_Model_add_46 : decode b_Model_add 46 = .ok (.aload_n 0, 1) := by decide +kernel
theorem d_Model_add_47 : decode b_Model_add 47 = .ok (.getfield 47, 3) := by decide +kernel
theorem d_Model_add_50 : decode b_Model_add 50 = .ok (.iload 4, 2) := by decide +kernel
theorem d_Model_add_52 : decode b_Model_add 52 = .ok (.iastore, 1) := by decide +kernel
theorem d_Model_add_53 : decode b_Model_add 53 = .ok (.aload_n 0, 1) := by decide +kernel
theorem d_Model_add_54 : decode b_Model_add 54 = .ok (.getfield 25, 3) := by decide +kernel
theorem d_Model_add_57 : decode b_Model_add 57 = .ok (.aload_n 0, 1) := by decide +kernel
theorem d_Model_add_58 : decode b_Model_add 58 = .ok (.getfield 47, 3) := by decide +kernel
theorem d_Model_add_61 : decode b_Model_add 61 = .ok (.iload 5, 2) := by decide +kernel
theorem d_Model_add_63 : decode b_Model_add 63 = .ok (.bastore, 1) := by decide +kernel
theorem d_Model_add_64 : decode b_Model_add 64 = .ok (.iconst 0, 1) := by decide +kernel
theorem d_Model_add_65 : decode b_Model_add 65 = .ok (.istore 6, 2) := by decide +kernel
theorem d_Model_add_67 : decode b_Model_add 67 = .ok (.iload 6, 2) := by decide +kernel
theorem d_Model_add_69 : decode b_Model_add 69 = .ok (.iload_n 3, 1) := by decide +kernel
theorem d_Model_add_70 : decode b_Model_add 70 = .ok (.if_icmp .ge 27, 3) := by decide +kernel
theorem d_Model_add_73 : decode b_Model_add 73 = .ok (.aload_n 0, 1) := by decide +kernel
theorem d_Model_add_74 : decode b_Model_add 74 = .ok (.getfield 35, 3) := by decide +kernel
theorem d_Model_add_77 : decode b_Model_add 77 = .ok (.aload_n 0, 1) := by decide +kernel
theorem d_Model_add_78 : decode b_Model_add 78 = .ok (.getfield 47, 3) := by decide +kernel
theorem d_Model_add_81 : decode b_Model_add 81 = .ok (.bipush 7, 2) := by decide +kernel
theorem d_Model_add_83 : decode b_Model_add 83 = .ok (.imul, 1) := by decide +kernel
theorem d_Model_add_84 : decode b_Model_add 84 = .ok (.iconst 4, 1) := by decide +kernel
theorem d_Model_add_85 : decode b_Model_add 85 = .ok (.iadd, 1) := by decide +kernel
theorem d_Model_add_86 : decode b_Model_add 86 = .ok (.iload 6, 2) := by decide +kernel
theorem d_Model_add_88 : decode b_Model_add 88 = .ok (.iadd, 1) := by decide +kernel
theorem d_Model_add_89 : decode b_Model_add 89 = .ok (.iconst 1, 1) := by decide +kernel
theorem d_Model_add_90 : decode b_Model_add 90 = .ok (.bastore, 1) := by decide +kernel
theorem d_Model_add_91 : decode b_Model_add 91 = .ok (.iinc 6 1, 3) := by decide +kernel
theorem d_Model_add_94 : decode b_Model_add 94 = .ok (.goto (-27), 3) := by decide +kernel
theorem d_Model_add_97 : decode b_Model_add 97 = .ok (.aload_n 0, 1) := by decide +kernel
theorem d_Model_add_98 : decode b_Model_add 98 = .ok (.dup, 1) := by decide +kernel
theorem d_Model_add_99 : decode b_Model_add 99 = .ok (.getfield 47, 3) := by decide +kernel
theorem d_Model_add_102 : decode b_Model_add 102 = .ok (.iconst 1, 1) := by decide +kernel
theorem d_Model_add_103 : decode b_Model_add 103 = .ok (.iadd, 1) := by decide +kernel
theorem d_Model_add_104 : decode b_Model_add 104 = .ok (.putfield 47, 3) := by decide +kernel
theorem d_Model_add_107 : decode b_Model_add 107 = .ok (.aload_n 0, 1) := by decide +kernel
theorem d_Model_add_108 : decode b_Model_add 108 = .ok (.getfield 47, 3) := by decide +kernel
theorem d_Model_add_111 : decode b_Model_add 111 = .ok (.iconst 1, 1) := by decide +kernel
theorem d_Model_add_112 : decode b_Model_add 112 = .ok (.isub, 1) := by decide +kernel
theorem d_Model_add_113 : decode b_Model_add 113 = .ok (.ireturn, 1) := by decide +kernel
theorem d_Model_container_0 : decode b_Model_container 0 = .ok (.aload_n 0, 1) := by decide +kernel
theorem d_Model_container_1 : decode b_Model_container 1 = .ok (.iload_n 1, 1) := by decide +kernel
theorem d_Model_container_2 : decode b_Model_container 2 = .ok (.invokevirtual 79, 3) := by decide +kernel
theorem d_Model_container_5 : decode b_Model_container 5 = .ok (.ifCond .eq 22, 3) := by decide +kernel
theorem d_Model_container_8 : decode b_Model_container 8 = .ok (.aload_n 0, 1) := by decide +kernel
theorem d_Model_container_9 : decode b_Model_container 9 = .ok (.iload_n 1, 1) := by decide +kernel
theorem d_Model_container_10 : decode b_Model_container 10 = .ok (.invokevirtual 82, 3) := by decide +kernel
theorem d_Model_container_13 : decode b_Model_container 13 = .ok (.iconst 2, 1) := by decide +kernel
theorem d_Model_container_14 : decode b_Model_container 14 = .ok (.if_icmp .gt 13, 3) := by decide +kernel
theorem d_Model_container_17 : decode b_Model_container 17 = .ok (.iload_n 2, 1) := by decide +kernel
theorem d_Model_container_18 : decode b_Model_container 18 = .ok (.ifCond .lt 9, 3) := by decide +kernel
theorem d_Model_container_21 : decode b_Model_container 21 = .ok (.iload_n 2, 1) := by decide +kernel
theorem d_Model_container_22 : decode b_Model_container 22 = .ok (.bipush 99, 2) := by decide +kernel
theorem d_Model_container_24 : decode b_Model_container 24 = .ok (.if_icmp .le 5, 3) := by decide +kernel
theorem d_Model_container_27 : decode b_Model_container 27 = .ok (.iconst (-1), 1) := by decide +kernel
theorem d_Model_container_28 : decode b_Model_container 28 = .ok (.ireturn, 1) := by decide +kernel
theorem d_Model_container_29 : decode b_Model_container 29 = .ok (.aload_n 0, 1) := by decide +kernel
theorem d_Model_container_30 : decode b_Model_container 30 = .ok (.iload_n 1, 1) := by decide +kernel
theorem d_Model_container_31 : decode b_Model_container 31 = .ok (.iload_n 2, 1) := by decide +kernel
theorem d_Model_container_32 : decode b_Model_container 32 = .ok (.iconst 0, 1) := by decide +kernel
theorem d_Model_container_33 : decode b_Model_container 33 = .ok (.iconst 0, 1) := by decide +kernel
theorem d_Model_container_34 : decode b_Model_container 34 = .ok (.iload_n 3, 1) := by decide +kernel
theorem d_Model_container_35 : decode b_Model_container 35 = .ok (.invokevirtual 86, 3) := by decide +kernel
theorem d_Model_container_38 : decode b_Model_container 38 = .ok (.ireturn, 1) := by decide +kernel
theorem d_Model_test_0 : decode b_Model_test 0 = .ok (.aload_n 0, 1) := by decide +kernel
theorem d_Model_test_1 : decode b_Model_test 1 = .ok (.iload_n 1, 1) := by decide +kernel
theorem d_Model_test_2 : decode b_Model_test 2 = .ok (.invokevirtual 79, 3) := by decide +kernel
theorem d_Model_test_5 : decode b_Model_test 5 = .ok (.ifCond .eq 36, 3) := by decide +kernel
theorem d_Model_test_8 : decode b_Model_test 8 = .ok (.iload_n 2, 1) := by decide +kernel
theorem d_Model_test_9 : decode b_Model_test 9 = .ok (.ifCond .lt 32, 3) := by decide +kernel
theorem d_Model_test_12 : decode b_Model_test 12 = .ok (.iload_n 2, 1) := by decide +kernel
theorem d_Model_test_13 : decode b_Model_test 13 = .ok (.bipush 99, 2) := by decide +kernel
theorem d_Model_test_15 : decode b_Model_test 15 = .ok (.if_icmp .gt 26, 3) := by decide +kernel
theorem d_Model_test_18 : decode b_Model_test 18 = .ok (.iload_n 3, 1) := by decide +kernel
theorem d_Model_test_19 : decode b_Model_test 19 = .ok (.iconst 1, 1) := by decide +kernel
theorem d_Model_test_20 : decode b_Model_test 20 = .ok (.if_icmp .lt 21, 3) := by decide +kernel
theorem d_Model_test_23 : decode b_Model_test 23 = .ok (.iload_n 3, 1) := by decide +kernel
theorem d_Model_test_24 : decode b_Model_test 24 = .ok (.iconst 3, 1) := by decide +kernel
theorem d_Model_test_25 : decode b_Model_test 25 = .ok (.if_icmp .gt 16, 3) := by decide +kernel
theorem d_Model_test_28 : decode b_Model_test 28 = .ok (.iload 4, 2) := by decide +kernel
theorem d_Model_test_30 : decode b_Model_test 30 = .ok (.iconst 1, 1) := by decide +kernel
theorem d_Model_test_31 : decode b_Model_test 31 = .ok (.if_icmp .lt 10, 3) := by decide +kernel
theorem d_Model_test_34 : decode b_Model_test 34 = .ok (.iload 4, 2) := by decide +kernel
theorem d_Model_test_36 : decode b_Model_test 36 = .ok (.bipush 50, 2) := by decide +kernel
theorem d_Model_test_38 : decode b_Model_test 38 = .ok (.if_icmp .le 5, 3) := by decide +kernel
theorem d_Model_test_41 : decode b_Model_test 41 = .ok (.iconst (-1), 1) := by decide +kernel
theorem d_Model_test_42 : decode b_Model_test 42 = .ok (.ireturn, 1) := by decide +kernel
theorem d_Model_test_43 : decode b_Model_test 43 = .ok (.aload_n 0, 1) := by decide +kernel
theorem d_Model_test_44 : decode b_Model_test 44 = .ok (.iload_n 1, 1) := by decide +kernel
theorem d_Model_test_45 : decode b_Model_test 45 = .ok (.iload_n 2, 1) := by decide +kernel
theorem d_Model_test_46 : decode b_Model_test 46 = .ok (.iload_n 3, 1) := by decide +kernel
theorem d_Model_test_47 : decode b_Model_test 47 = .ok (.iload 4, 2) := by decide +kernel
theorem d_Model_test_49 : decode b_Model_test 49 = .ok (.iconst 0, 1) := by decide +kernel
theorem d_Model_test_50 : decode b_Model_test 50 = .ok (.invokevirtual 86, 3) := by decide +kernel
theorem d_Model_test_53 : decode b_Model_test 53 = .ok (.ireturn, 1) := by decide +kernel
theorem d_Model_mark_0 : decode b_Model_mark 0 = .ok (.aload_n 0, 1) := by decide +kernel
theorem d_Model_mark_1 : decode b_Model_mark 1 = .ok (.iload_n 1, 1) := by decide +kernel
theorem d_Model_mark_2 : decode b_Model_mark 2 = .ok (.invokevirtual 75, 3) := by decide +kernel
theorem d_Model_mark_5 : decode b_Model_mark 5 = .ok (.ifCond .eq 14, 3) := by decide +kernel
theorem d_Model_mark_8 : decode b_Model_mark 8 = .ok (.iload_n 2, 1) := by decide +kernel
theorem d_Model_mark_9 : decode b_Model_mark 9 = .ok (.ifCond .lt 10, 3) := by decide +kernel
theorem d_Model_mark_12 : decode b_Model_mark 12 = .ok (.iload_n 2, 1) := by decide +kernel
theorem d_Model_mark_13 : decode b_Model_mark 13 = .ok (.sipush 255, 3) := by decide +kernel
theorem d_Model_mark_16 : decode b_Model_mark 16 = .ok (.if_icmp .le 5, 3) := by decide +kernel
theorem d_Model_mark_19 : decode b_Model_mark 19 = .ok (.iconst (-1), 1) := by decide +kernel
theorem d_Model_mark_20 : decode b_Model_mark 20 = .ok (.ireturn, 1) := by decide +kernel
theorem d_Model_mark_21 : decode b_Model_mark 21 = .ok (.aload_n 0, 1) := by decide +kernel
theorem d_Model_mark_22 : decode b_Model_mark 22 = .ok (.getfield 22, 3) := by decide +kernel
theorem d_Model_mark_25 : decode b_Model_mark 25 = .ok (.iload_n 1, 1) := by decide +kernel
theorem d_Model_mark_26 : decode b_Model_mark 26 = .ok (.iload_n 2, 1) := by decide +kernel
theorem d_Model_mark_27 : decode b_Model_mark 27 = .ok (.iastore, 1) := by decide +kernel
theorem d_Model_mark_28 : decode b_Model_mark 28 = .ok (.aload_n 0, 1) := by decide +kernel
theorem d_Model_mark_29 : decode b_Model_mark 29 = .ok (.getfield 29, 3) := by decide +kernel
theorem d_Model_mark_32 : decode b_Model_mark 32 = .ok (.iload_n 1, 1) := by decide +kernel
theorem d_Model_mark_33 : decode b_Model_mark 33 = .ok (.iload_n 3, 1) := by decide +kernel
theorem d_Model_mark_34 : decode b_Model_mark 34 = .ok (.bastore, 1) := by decide +kernel
theorem d_Model_mark_35 : decode b_Model_mark 35 = .ok (.iconst 0, 1) := by decide +kernel
theorem d_Model_mark_36 : decode b_Model_mark 36 = .ok (.ireturn, 1) := by decide +kernel
theorem d_Model_method_0 : decode b_Model_method 0 = .ok (.aload_n 0, 1) := by decide +kernel
theorem d_Model_method_1 : decode b_Model_method 1 = .ok (.iload_n 1, 1) := by decide +kernel
theorem d_Model_method_2 : decode b_Model_method 2 = .ok (.invokevirtual 75, 3) := by decide +kernel
theorem d_Model_method_5 : decode b_Model_method 5 = .ok (.ifCond .eq 13, 3) := by decide +kernel
theorem d_Model_method_8 : decode b_Model_method 8 = .ok (.iload_n 2, 1) := by decide +kernel
theorem d_Model_method_9 : decode b_Model_method 9 = .ok (.ifCond .lt 9, 3) := by decide +kernel
theorem d_Model_method_12 : decode b_Model_method 12 = .ok (.iload_n 2, 1) := by decide +kernel
theorem d_Model_method_13 : decode b_Model_method 13 = .ok (.bipush 6, 2) := by decide +kernel
theorem d_Model_method_15 : decode b_Model_method 15 = .ok (.if_icmp .le 5, 3) := by decide +kernel
theorem d_Model_method_18 : decode b_Model_method 18 = .ok (.iconst (-1), 1) := by decide +kernel
theorem d_Model_method_19 : decode b_Model_method 19 = .ok (.ireturn, 1) := by decide +kernel
theorem d_Model_method_20 : decode b_Model_method 20 = .ok (.aload_n 0, 1) := by decide +kernel
theorem d_Model_method_21 : decode b_Model_method 21 = .ok (.getfield 16, 3) := by decide +kernel
theorem d_Model_method_24 : decode b_Model_method 24 = .ok (.iload_n 1, 1) := by decide +kernel
theorem d_Model_method_25 : decode b_Model_method 25 = .ok (.iaload, 1) := by decide +kernel
theorem d_Model_method_26 : decode b_Model_method 26 = .ok (.ifCond .ne 11, 3) := by decide +kernel
theorem d_Model_method_29 : decode b_Model_method 29 = .ok (.iload_n 2, 1) := by decide +kernel
theorem d_Model_method_30 : decode b_Model_method 30 = .ok (.iconst 3, 1) := by decide +kernel
theorem d_Model_method_31 : decode b_Model_method 31 = .ok (.if_icmp .le 25, 3) := by decide +kernel
theorem d_Model_method_34 : decode b_Model_method 34 = .ok (.goto 20, 3) := by decide +kernel
theorem d_Model_method_37 : decode b_Model_method 37 = .ok (.iload_n 2, 1) := by decide +kernel
theorem d_Model_method_38 : decode b_Model_method 38 = .ok (.iconst 4, 1) := by decide +kernel
theorem d_Model_method_39 : decode b_Model_method 39 = .ok (.if_icmp .lt 15, 3) := by decide +kernel
theorem d_Model_method_42 : decode b_Model_method 42 = .ok (.iload_n 2, 1) := by decide +kernel
theorem d_Model_method_43 : decode b_Model_method 43 = .ok (.iconst 3, 1) := by decide +kernel
theorem d_Model_method_44 : decode b_Model_method 44 = .ok (.aload_n 0, 1) := by decide +kernel
theorem d_Model_method_45 : decode b_Model_method 45 = .ok (.getfield 16, 3) := by decide +kernel
theorem d_Model_method_48 : decode b_Model_method 48 = .ok (.iload_n 1, 1) := by decide +kernel
theorem d_Model_method_49 : decode b_Model_method 49 = .ok (.iaload, 1) := by decide +kernel
theorem d_Model_method_50 : decode b_Model_method 50 = .ok (.iadd, 1) := by decide +kernel
theorem d_Model_method_51 : decode b_Model_method 51 = .ok (.if_icmp .le 5, 3) := by decide +kernel
theorem d_Model_method_54 : decode b_Model_method 54 = .ok (.iconst (-1), 1) := by decide +kernel
theorem d_Model_method_55 : decode b_Model_method 55 = .ok (.ireturn, 1) := by decide +kernel
theorem d_Model_method_56 : decode b_Model_method 56 = .ok (.iload_n 3, 1) := by decide +kernel
theorem d_Model_method_57 : decode b_Model_method 57 = .ok (.ifCond .lt 32, 3) := by decide +kernel
theorem d_Model_method_60 : decode b_Model_method 60 = .ok (.iload_n 3, 1) := by decide +kernel
theorem d_Model_method_61 : decode b_Model_method 61 = .ok (.iconst 2, 1) := by decide +kernel
theorem d_Model_method_62 : decode b_Model_method 62 = .ok (.if_icmp .gt 27, 3) := by decide +kernel
theorem d_Model_method_65 : decode b_Model_method 65 = .ok (.iload 4, 2) := by decide +kernel
theorem d_Model_method_67 : decode b_Model_method 67 = .ok (.ifCond .lt 22, 3) := by decide +kernel
theorem d_Model_method_70 : decode b_Model_method 70 = .ok (.iload 4, 2) := by decide +kernel
theorem d_Model_method_72 : decode b_Model_method 72 = .ok (.bipush 99, 2) := by decide +kernel
theorem d_Model_method_74 : decode b_Model_method 74 = .ok (.if_icmp .gt 15, 3) := by decide +kernel
theorem d_Model_method_77 : decode b_Model_method 77 = .ok (.iload 5, 2) := by decide +kernel
theorem d_Model_method_79 : decode b_Model_method 79 = .ok (.ifCond .lt 10, 3) := by decide +kernel
theorem d_Model_method_82 : decode b_Model_method 82 = .ok (.iload 5, 2) := by decide +kernel
theorem d_Model_method_84 : decode b_Model_method 84 = .ok (.bipush 50, 2) := by decide +kernel
theorem d_Model_method_86 : decode b_Model_method 86 = .ok (.if_icmp .le 5, 3) := by decide +kernel
theorem d_Model_method_89 : decode b_Model_method 89 = .ok (.iconst (-1), 1) := by decide +kernel
theorem d_Model_method_90 : decode b_Model_method 90 = .ok (.ireturn, 1) := by decide +kernel
theorem d_Model_method_91 : decode b_Model_method 91 = .ok (.iload_n 1, 1) := by decide +kernel
theorem d_Model_method_92 : decode b_Model_method 92 = .ok (.bipush 7, 2) := by decide +kernel
theorem d_Model_method_94 : decode b_Model_method 94 = .ok (.imul, 1) := by decide +kernel
theorem d_Model_method_95 : decode b_Model_method 95 = .ok (.iload_n 2, 1) := by decide +kernel
theorem d_Model_method_96 : decode b_Model_method 96 = .ok (.iadd, 1) := by decide +kernel
theorem d_Model_method_97 : decode b_Model_method 97 = .ok (.istore 6, 2) := by decide +kernel
theorem d_Model_method_99 : decode b_Model_method 99 = .ok (.aload_n 0, 1) := by decide +kernel
theorem d_Model_method_100 : decode b_Model_method 100 = .ok (.getfield 35, 3) := by decide +kernel
theorem d_Model_method_103 : decode b_Model_method 103 = .ok (.iload 6, 2) := by decide +kernel
theorem d_Model_method_105 : decode b_Model_method 105 = .ok (.iconst 1, 1) := by decide +kernel
theorem d_Model_method_106 : decode b_Model_method 106 = .ok (.bastore, 1) := by decide +kernel
theorem d_Model_method_107 : decode b_Model_method 107 = .ok (.aload_n 0, 1) := by decide +kernel
theorem d_Model_method_108 : decode b_Model_method 108 = .ok (.getfield 38, 3) := by decide +kernel
theorem d_Model_method_111 : decode b_Model_method 111 = .ok (.iload 6, 2) := by decide +kernel
theorem d_Model_method_113 : decode b_Model_method 113 = .ok (.iload_n 3, 1) := by decide +kernel
theorem d_Model_method_114 : decode b_Model_method 114 = .ok (.iastore, 1) := by decide +kernel
theorem d_Model_method_115 : decode b_Model_method 115 = .ok (.aload_n 0, 1) := by decide +kernel
theorem d_Model_method_116 : decode b_Model_method 116 = .ok (.getfield 41, 3) := by decide +kernel
theorem d_Model_method_119 : decode b_Model_method 119 = .ok (.iload 6, 2) := by decide +kernel
theorem d_Model_method_121 : decode b_Model_method 121 = .ok (.iload 4, 2) := by decide +kernel
theorem d_Model_method_123 : decode b_Model_method 123 = .ok (.iastore, 1) := by decide +kernel
theorem d_Model_method_124 : decode b_Model_method 124 = .ok (.aload_n 0, 1) := by decide +kernel
theorem d_Model_method_125 : decode b_Model_method 125 = .ok (.getfield 44, 3) := by decide +kernel
theorem d_Model_method_128 : decode b_Model_method 128 = .ok (.iload 6, 2) := by decide +kernel
theorem d_Model_method_130 : decode b_Model_method 130 = .ok (.iload 5, 2) := by decide +kernel
theorem d_Model_method_132 : decode b_Model_method 132 = .ok (.iastore, 1) := by decide +kernel
theorem d_Model_method_133 : decode b_Model_method 133 = .ok (.iconst 0, 1) := by decide +kernel
theorem d_Model_method_134 : decode b_Model_method 134 = .ok (.ireturn, 1) := by decide +kernel
theorem d_Model_without_0 : decode b_Model_without 0 = .ok (.aload_n 0, 1) := by decide +kernel
theorem d_Model_without_1 : decode b_Model_without 1 = .ok (.iload_n 1, 1) := by decide +kernel
theorem d_Model_without_2 : decode b_Model_without 2 = .ok (.invokevirtual 79, 3) := by decide +kernel
theorem d_Model_without_5 : decode b_Model_without 5 = .ok (.ifCond .eq 26, 3) := by decide +kernel
theorem d_Model_without_8 : decode b_Model_without 8 = .ok (.iload_n 2, 1) := by decide +kernel
theorem d_Model_without_9 : decode b_Model_without 9 = .ok (.ifCond .lt 22, 3) := by decide +kernel
theorem d_Model_without_12 : decode b_Model_without 12 = .ok (.iload_n 2, 1) := by decide +kernel
theorem d_Model_without_13 : decode b_Model_without 13 = .ok (.iconst 3, 1) := by decide +kernel
theorem d_Model_without_14 : decode b_Model_without 14 = .ok (.if_icmp .gt 17, 3) := by decide +kernel
theorem d_Model_without_17 : decode b_Model_without 17 = .ok (.aload_n 0, 1) := by decide +kernel
theorem d_Model_without_18 : decode b_Model_without 18 = .ok (.getfield 35, 3) := by decide +kernel
theorem d_Model_without_21 : decode b_Model_without 21 = .ok (.iload_n 1, 1) := by decide +kernel
theorem d_Model_without_22 : decode b_Model_without 22 = .ok (.bipush 7, 2) := by decide +kernel
theorem d_Model_without_24 : decode b_Model_without 24 = .ok (.imul, 1) := by decide +kernel
theorem d_Model_without_25 : decode b_Model_without 25 = .ok (.iload_n 2, 1) := by decide +kernel
theorem d_Model_without_26 : decode b_Model_without 26 = .ok (.iadd, 1) := by decide +kernel
theorem d_Model_without_27 : decode b_Model_without 27 = .ok (.baload, 1) := by decide +kernel
theorem d_Model_without_28 : decode b_Model_without 28 = .ok (.ifCond .ne 5, 3) := by decide +kernel
theorem d_Model_without_31 : decode b_Model_without 31 = .ok (.iconst (-1), 1) := by decide +kernel
theorem d_Model_without_32 : decode b_Model_without 32 = .ok (.ireturn, 1) := by decide +kernel
theorem d_Model_without_33 : decode b_Model_without 33 = .ok (.aload_n 0, 1) := by decide +kernel
theorem d_Model_without_34 : decode b_Model_without 34 = .ok (.getfield 35, 3) := by decide +kernel
theorem d_Model_without_37 : decode b_Model_without 37 = .ok (.iload_n 1, 1) := by decide +kernel
theorem d_Model_without_38 : decode b_Model_without 38 = .ok (.bipush 7, 2) := by decide +kernel
theorem d_Model_without_40 : decode b_Model_without 40 = .ok (.imul, 1) := by decide +kernel
theorem d_Model_without_41 : decode b_Model_without 41 = .ok (.iload_n 2, 1) := by decide +kernel
theorem d_Model_without_42 : decode b_Model_without 42 = .ok (.iadd, 1) := by decide +kernel
theorem d_Model_without_43 : decode b_Model_without 43 = .ok (.iconst 0, 1) := by decide +kernel
theorem d_Model_without_44 : decode b_Model_without 44 = .ok (.bastore, 1) := by decide +kernel
theorem d_Model_without_45 : decode b_Model_without 45 = .ok (.aload_n 0, 1) := by decide +kernel
theorem d_Model_without_46 : decode b_Model_without 46 = .ok (.getfield 38, 3) := by decide +kernel
theorem d_Model_without_49 : decode b_Model_without 49 = .ok (.iload_n 1, 1) := by decide +kernel
theorem d_Model_without_50 : decode b_Model_without 50 = .ok (.bipush 7, 2) := by decide +kernel
theorem d_Model_without_52 : decode b_Model_without 52 = .ok (.imul, 1) := by decide +kernel
theorem d_Model_without_53 : decode b_Model_without 53 = .ok (.iload_n 2, 1) := by decide +kernel
theorem d_Model_without_54 : decode b_Model_without 54 = .ok (.iadd, 1) := by decide +kernel
theorem d_Model_without_55 : decode b_Model_without 55 = .ok (.aload_n 0, 1) := by decide +kernel
theorem d_Model_without_56 : decode b_Model_without 56 = .ok (.getfield 41, 3) := by decide +kernel
theorem d_Model_without_59 : decode b_Model_without 59 = .ok (.iload_n 1, 1) := by decide +kernel
theorem d_Model_without_60 : decode b_Model_without 60 = .ok (.bipush 7, 2) := by decide +kernel
theorem d_Model_without_62 : decode b_Model_without 62 = .ok (.imul, 1) := by decide +kernel
theorem d_Model_without_63 : decode b_Model_without 63 = .ok (.iload_n 2, 1) := by decide +kernel
theorem d_Model_without_64 : decode b_Model_without 64 = .ok (.iadd, 1) := by decide +kernel
theorem d_Model_without_65 : decode b_Model_without 65 = .ok (.aload_n 0, 1) := by decide +kernel
theorem d_Model_without_66 : decode b_Model_without 66 = .ok (.getfield 44, 3) := by decide +kernel
theorem d_Model_without_69 : decode b_Model_without 69 = .ok (.iload_n 1, 1) := by decide +kernel
theorem d_Model_without_70 : decode b_Model_without 70 = .ok (.bipush 7, 2) := by decide +kernel
theorem d_Model_without_72 : decode b_Model_without 72 = .ok (.imul, 1) := by decide +kernel
theorem d_Model_without_73 : decode b_Model_without 73 = .ok (.iload_n 2, 1) := by decide +kernel
theorem d_Model_without_74 : decode b_Model_without 74 = .ok (.iadd, 1) := by decide +kernel
theorem d_Model_without_75 : decode b_Model_without 75 = .ok (.iconst 0, 1) := by decide +kernel
theorem d_Model_without_76 : decode b_Model_without 76 = .ok (.dup_x2, 1) := by decide +kernel
theorem d_Model_without_77 : decode b_Model_without 77 = .ok (.iastore, 1) := by decide +kernel
theorem d_Model_without_78 : decode b_Model_without 78 = .ok (.dup_x2, 1) := by decide +kernel
theorem d_Model_without_79 : decode b_Model_without 79 = .ok (.iastore, 1) := by decide +kernel
theorem d_Model_without_80 : decode b_Model_without 80 = .ok (.iastore, 1) := by decide +kernel
theorem d_Model_without_81 : decode b_Model_without 81 = .ok (.iconst 0, 1) := by decide +kernel
theorem d_Model_without_82 : decode b_Model_without 82 = .ok (.ireturn, 1) := by decide +kernel
theorem d_Model_choose_0 : decode b_Model_choose 0 = .ok (.iconst 0, 1) := by decide +kernel
theorem d_Model_choose_1 : decode b_Model_choose 1 = .ok (.istore_n 3, 1) := by decide +kernel
theorem d_Model_choose_2 : decode b_Model_choose 2 = .ok (.iload_n 3, 1) := by decide +kernel
theorem d_Model_choose_3 : decode b_Model_choose 3 = .ok (.aload_n 0, 1) := by decide +kernel
theorem d_Model_choose_4 : decode b_Model_choose 4 = .ok (.getfield 47, 3) := by decide +kernel
theorem d_Model_choose_7 : decode b_Model_choose 7 = .ok (.if_icmp .ge 16, 3) := by decide +kernel
theorem d_Model_choose_10 : decode b_Model_choose 10 = .ok (.aload_n 0, 1) := by decide +kernel
theorem d_Model_choose_11 : decode b_Model_choose 11 = .ok (.getfield 32, 3) := by decide +kernel
theorem d_Model_choose_14 : decode b_Model_choose 14 = .ok (.iload_n 3, 1) := by decide +kernel
theorem d_Model_choose_15 : decode b_Model_choose 15 = .ok (.iconst 0, 1) := by decide +kernel
theorem d_Model_choose_16 : decode b_Model_choose 16 = .ok (.bastore, 1) := by decide +kernel
theorem d_Model_choose_17 : decode b_Model_choose 17 = .ok (.iinc 3 1, 3) := by decide +kernel
theorem d_Model_choose_20 : decode b_Model_choose 20 = .ok (.goto (-18), 3) := by decide +kernel
theorem d_Model_choose_23 : decode b_Model_choose 23 = .ok (.iconst 0, 1) := by decide +kernel
theorem d_Model_choose_24 : decode b_Model_choose 24 = .ok (.istore_n 3, 1) := by decide +kernel
theorem d_Model_choose_25 : decode b_Model_choose 25 = .ok (.iload_n 3, 1) := by decide +kernel
theorem d_Model_choose_26 : decode b_Model_choose 26 = .ok (.aload_n 0, 1) := by decide +kernel
theorem d_Model_choose_27 : decode b_Model_choose 27 = .ok (.getfield 47, 3) := by decide +kernel
theorem d_Model_choose_30 : decode b_Model_choose 30 = .ok (.if_icmp .ge 115, 3) := by decide +kernel
theorem d_Model_choose_33 : decode b_Model_choose 33 = .ok (.aload_n 0, 1) := by decide +kernel
theorem d_Model_choose_34 : decode b_Model_choose 34 = .ok (.getfield 16, 3) := by decide +kernel
theorem d_Model_choose_37 : decode b_Model_choose 37 = .ok (.iload_n 3, 1) := by decide +kernel
theorem d_Model_choose_38 : decode b_Model_choose 38 = .ok (.iaload, 1) := by decide +kernel
theorem d_Model_choose_39 : decode b_Model_choose 39 = .ok (.ifCond .ne 6, 3) := by decide +kernel
theorem d_Model_choose_42 : decode b_Model_choose 42 = .ok (.goto 97, 3) := by decide +kernel
theorem d_Model_choose_45 : decode b_Model_choose 45 = .ok (.iconst 0, 1) := by decide +kernel
theorem d_Model_choose_46 : decode b_Model_choose 46 = .ok (.istore 4, 2) := by decide +kernel
theorem d_Model_choose_48 : decode b_Model_choose 48 = .ok (.iload_n 3, 1) := by decide +kernel
theorem d_Model_choose_49 : decode b_Model_choose 49 = .ok (.istore 5, 2) := by decide +kernel
theorem d_Model_choose_51 : decode b_Model_choose 51 = .ok (.iload 5, 2) := by decide +kernel
theorem d_Model_choose_53 : decode b_Model_choose 53 = .ok (.ifCond .lt 27, 3) := by decide +kernel
theorem d_Model_choose_56 : decode b_Model_choose 56 = .ok (.iload 4, 2) := by decide +kernel
theorem d_Model_choose_58 : decode b_Model_choose 58 = .ok (.aload_n 0, 1) := by decide +kernel
theorem d_Model_choose_59 : decode b_Model_choose 59 = .ok (.getfield 22, 3) := by decide +kernel
theorem d_Model_choose_62 : decode b_Model_choose 62 = .ok (.iload 5, 2) := by decide +kernel
theorem d_Model_choose_64 : decode b_Model_choose 64 = .ok (.iaload, 1) := by decide +kernel
theorem d_Model_choose_65 : decode b_Model_choose 65 = .ok (.ior, 1) := by decide +kernel
theorem d_Model_choose_66 : decode b_Model_choose 66 = .ok (.istore 4, 2) := by decide +kernel
theorem d_Model_choose_68 : decode b_Model_choose 68 = .ok (.aload_n 0, 1) := by decide +kernel
theorem d_Model_choose_69 : decode b_Model_choose 69 = .ok (.getfield 7, 3) := by decide +kernel
theorem d_Model_choose_72 : decode b_Model_choose 72 = .ok (.iload 5, 2) := by decide +kernel
theorem d_Model_choose_74 : decode b_Model_choose 74 = .ok (.iaload, 1) := by decide +kernel
theorem d_Model_choose_75 : decode b_Model_choose 75 = .ok (.istore 5, 2) := by decide +kernel
theorem d_Model_choose_77 : decode b_Model_choose 77 = .ok (.goto (-26), 3) := by decide +kernel
theorem d_Model_choose_80 : decode b_Model_choose 80 = .ok (.iload_n 1, 1) := by decide +kernel
theorem d_Model_choose_81 : decode b_Model_choose 81 = .ok (.ifCond .eq 10, 3) := by decide +kernel
theorem d_Model_choose_84 : decode b_Model_choose 84 = .ok (.iload 4, 2) := by decide +kernel
theorem d_Model_choose_86 : decode b_Model_choose 86 = .ok (.iload_n 1, 1) := by decide +kernel
theorem d_Model_choose_87 : decode b_Model_choose 87 = .ok (.iand, 1) := by decide +kernel
theorem d_Model_choose_88 : decode b_Model_choose 88 = .ok (.ifCond .eq 51, 3) := by decide +kernel
theorem d_Model_choose_91 : decode b_Model_choose 91 = .ok (.iload 4, 2) := by decide +kernel
theorem d_Model_choose_93 : decode b_Model_choose 93 = .ok (.iload_n 2, 1) := by decide +kernel
theorem d_Model_choose_94 : decode b_Model_choose 94 = .ok (.iand, 1) := by decide +kernel
theorem d_Model_choose_95 : decode b_Model_choose 95 = .ok (.ifCond .eq 6, 3) := by decide +kernel
theorem d_Model_choose_98 : decode b_Model_choose 98 = .ok (.goto 41, 3) := by decide +kernel
theorem d_Model_choose_101 : decode b_Model_choose 101 = .ok (.aload_n 0, 1) := by decide +kernel
theorem d_Model_choose_102 : decode b_Model_choose 102 = .ok (.dup, 1) := by decide +kernel
theorem d_Model_choose_103 : decode b_Model_choose 103 = .ok (.getfield 90, 3) := by decide +kernel
theorem d_Model_choose_106 : decode b_Model_choose 106 = .ok (.iconst 1, 1) := by decide +kernel
theorem d_Model_choose_107 : decode b_Model_choose 107 = .ok (.iadd, 1) := by decide +kernel
theorem d_Model_choose_108 : decode b_Model_choose 108 = .ok (.putfield 90, 3) := by decide +kernel
theorem d_Model_choose_111 : decode b_Model_choose 111 = .ok (.iload_n 3, 1) := by decide +kernel
theorem d_Model_choose_112 : decode b_Model_choose 112 = .ok (.istore 5, 2) := by decide +kernel
theorem d_Model_choose_114 : decode b_Model_choose 114 = .ok (.iload 5, 2) := by decide +kernel
theorem d_Model_choose_116 : decode b_Model_choose 116 = .ok (.ifCond .lt 23, 3) := by decide +kernel
theorem d_Model_choose_119 : decode b_Model_choose 119 = .ok (.aload_n 0, 1) := by decide +kernel
theorem d_Model_choose_120 : decode b_Model_choose 120 = .ok (.getfield 32, 3) := by decide +kernel
theorem d_Model_choose_123 : decode b_Model_choose 123 = .ok (.iload 5, 2) := by decide +kernel
theorem d_Model_choose_125 : decode b_Model_choose 125 = .ok (.iconst 1, 1) := by decide +kernel
theorem d_Model_choose_126 : decode b_Model_choose 126 = .ok (.bastore, 1) := by decide +kernel
theorem d_Model_choose_127 : decode b_Model_choose 127 = .ok (.aload_n 0, 1) := by decide +kernel
theorem d_Model_choose_128 : decode b_Model_choose 128 = .ok (.getfield 7, 3) := by decide +kernel
theorem d_Model_choose_131 : decode b_Model_choose 131 = .ok (.iload 5, 2) := by decide +kernel
theorem d_Model_choose_133 : decode b_Model_choose 133 = .ok (.iaload, 1) := by decide +kernel
theorem d_Model_choose_134 : decode b_Model_choose 134 = .ok (.istore 5, 2) := by decide +kernel
theorem d_Model_choose_136 : decode b_Model_choose 136 = .ok (.goto (-22), 3) := by decide +kernel
theorem d_Model_choose_139 : decode b_Model_choose 139 = .ok (.iinc 3 1, 3) := by decide +kernel
theorem d_Model_choose_142 : decode b_Model_choose 142 = .ok (.goto (-117), 3) := by decide +kernel
theorem d_Model_choose_145 : decode b_Model_choose 145 = .ok (.return_, 1) := by decide +kernel
theorem d_Model_gather_0 : decode b_Model_gather 0 = .ok (.iload_n 1, 1) := by decide +kernel
theorem d_Model_gather_1 : decode b_Model_gather 1 = .ok (.iconst 4, 1) := by decide +kernel
theorem d_Model_gather_2 : decode b_Model_gather 2 = .ok (.if_icmp .ge 16, 3) := by decide +kernel
theorem d_Model_gather_5 : decode b_Model_gather 5 = .ok (.iload_n 1, 1) := by decide +kernel
theorem d_Model_gather_6 : decode b_Model_gather 6 = .ok (.iconst 2, 1) := by decide +kernel
theorem d_Model_gather_7 : decode b_Model_gather 7 = .ok (.imul, 1) := by decide +kernel
theorem d_Model_gather_8 : decode b_Model_gather 8 = .ok (.aload_n 0, 1) := by decide +kernel
theorem d_Model_gather_9 : decode b_Model_gather 9 = .ok (.getfield 66, 3) := by decide +kernel
theorem d_Model_gather_12 : decode b_Model_gather 12 = .ok (.iload_n 1, 1) := by decide +kernel
theorem d_Model_gather_13 : decode b_Model_gather 13 = .ok (.iaload, 1) := by decide +kernel
theorem d_Model_gather_14 : decode b_Model_gather 14 = .ok (.iadd, 1) := by decide +kernel
theorem d_Model_gather_15 : decode b_Model_gather 15 = .ok (.goto 12, 3) := by decide +kernel
theorem d_Model_gather_18 : decode b_Model_gather 18 = .ok (.bipush 8, 2) := by decide +kernel
theorem d_Model_gather_20 : decode b_Model_gather 20 = .ok (.aload_n 0, 1) := by decide +kernel
theorem d_Model_gather_21 : decode b_Model_gather 21 = .ok (.getfield 66, 3) := by decide +kernel
theorem d_Model_gather_24 : decode b_Model_gather 24 = .ok (.iconst 4, 1) := by decide +kernel
theorem d_Model_gather_25 : decode b_Model_gather 25 = .ok (.iaload, 1) := by decide +kernel
theorem d_Model_gather_26 : decode b_Model_gather 26 = .ok (.iadd, 1) := by decide +kernel
theorem d_Model_gather_27 : decode b_Model_gather 27 = .ok (.istore 4, 2) := by decide +kernel
theorem d_Model_gather_29 : decode b_Model_gather 29 = .ok (.aload_n 0, 1) := by decide +kernel
theorem d_Model_gather_30 : decode b_Model_gather 30 = .ok (.getfield 60, 3) := by decide +kernel
theorem d_Model_gather_33 : decode b_Model_gather 33 = .ok (.iload 4, 2) := by decide +kernel
theorem d_Model_gather_35 : decode b_Model_gather 35 = .ok (.iload_n 2, 1) := by decide +kernel
theorem d_Model_gather_36 : decode b_Model_gather 36 = .ok (.iastore, 1) := by decide +kernel
theorem d_Model_gather_37 : decode b_Model_gather 37 = .ok (.aload_n 0, 1) := by decide +kernel
theorem d_Model_gather_38 : decode b_Model_gather 38 = .ok (.getfield 63, 3) := by decide +kernel
theorem d_Model_gather_41 : decode b_Model_gather 41 = .ok (.iload 4, 2) := by decide +kernel
theorem d_Model_gather_43 : decode b_Model_gather 43 = .ok (.iload_n 3, 1) := by decide +kernel
theorem d_Model_gather_44 : decode b_Model_gather 44 = .ok (.ifCond .eq 7, 3) := by decide +kernel
theorem d_Model_gather_47 : decode b_Model_gather 47 = .ok (.iconst 1, 1) := by decide +kernel
theorem d_Model_gather_48 : decode b_Model_gather 48 = .ok (.goto 4, 3) := by decide +kernel
theorem d_Model_gather_51 : decode b_Model_gather 51 = .ok (.iconst 0, 1) := by decide +kernel
theorem d_Model_gather_52 : decode b_Model_gather 52 = .ok (.iastore, 1) := by decide +kernel
theorem d_Model_gather_53 : decode b_Model_gather 53 = .ok (.aload_n 0, 1) := by decide +kernel
theorem d_Model_gather_54 : decode b_Model_gather 54 = .ok (.getfield 66, 3) := by decide +kernel
theorem d_Model_gather_57 : decode b_Model_gather 57 = .ok (.iload_n 1, 1) := by decide +kernel
theorem d_Model_gather_58 : decode b_Model_gather 58 = .ok (.dup2, 1) := by decide +kernel
theorem d_Model_gather_59 : decode b_Model_gather 59 = .ok (.iaload, 1) := by decide +kernel
theorem d_Model_gather_60 : decode b_Model_gather 60 = .ok (.iconst 1, 1) := by decide +kernel
theorem d_Model_gather_61 : decode b_Model_gather 61 = .ok (.iadd, 1) := by decide +kernel
theorem d_Model_gather_62 : decode b_Model_gather 62 = .ok (.iastore, 1) := by decide +kernel
theorem d_Model_gather_63 : decode b_Model_gather 63 = .ok (.return_, 1) := by decide +kernel
theorem d_Model_call_0 : decode b_Model_call 0 = .ok (.iload_n 1, 1) := by decide +kernel
theorem d_Model_call_1 : decode b_Model_call 1 = .ok (.bipush 7, 2) := by decide +kernel
theorem d_Model_call_3 : decode b_Model_call 3 = .ok (.imul, 1) := by decide +kernel
theorem d_Model_call_4 : decode b_Model_call 4 = .ok (.iload_n 2, 1) := by decide +kernel
theorem d_Model_call_5 : decode b_Model_call 5 = .ok (.iadd, 1) := by decide +kernel
theorem d_Model_call_6 : decode b_Model_call 6 = .ok (.istore 4, 2) := by decide +kernel
theorem d_Model_call_8 : decode b_Model_call 8 = .ok (.aload_n 0, 1) := by decide +kernel
theorem d_Model_call_9 : decode b_Model_call 9 = .ok (.getfield 35, 3) := by decide +kernel
theorem d_Model_call_12 : decode b_Model_call 12 = .ok (.iload 4, 2) := by decide +kernel
theorem d_Model_call_14 : decode b_Model_call 14 = .ok (.baload, 1) := by decide +kernel
theorem d_Model_call_15 : decode b_Model_call 15 = .ok (.ifCond .ne 4, 3) := by decide +kernel
theorem d_Model_call_18 : decode b_Model_call 18 = .ok (.return_, 1) := by decide +kernel
theorem d_Model_call_19 : decode b_Model_call 19 = .ok (.aload_n 0, 1) := by decide +kernel
theorem d_Model_call_20 : decode b_Model_call 20 = .ok (.dup, 1) := by decide +kernel
theorem d_Model_call_21 : decode b_Model_call 21 = .ok (.getfield 93, 3) := by decide +kernel
theorem d_Model_call_24 : decode b_Model_call 24 = .ok (.iconst 1, 1) := by decide +kernel
theorem d_Model_call_25 : decode b_Model_call 25 = .ok (.iadd, 1) := by decide +kernel
theorem d_Model_call_26 : decode b_Model_call 26 = .ok (.putfield 93, 3) := by decide +kernel
theorem d_Model_call_29 : decode b_Model_call 29 = .ok (.iload_n 2, 1) := by decide +kernel
theorem d_Model_call_30 : decode b_Model_call 30 = .ok (.iconst 3, 1) := by decide +kernel
theorem d_Model_call_31 : decode b_Model_call 31 = .ok (.if_icmp .le 43, 3) := by decide +kernel
theorem d_Model_call_34 : decode b_Model_call 34 = .ok (.aload_n 0, 1) := by decide +kernel
theorem d_Model_call_35 : decode b_Model_call 35 = .ok (.getfield 44, 3) := by decide +kernel
theorem d_Model_call_38 : decode b_Model_call 38 = .ok (.iload 4, 2) := by decide +kernel
theorem d_Model_call_40 : decode b_Model_call 40 = .ok (.iaload, 1) := by decide +kernel
theorem d_Model_call_41 : decode b_Model_call 41 = .ok (.aload_n 0, 1) := by decide +kernel
theorem d_Model_call_42 : decode b_Model_call 42 = .ok (.getfield 19, 3) := by decide +kernel
theorem d_Model_call_45 : decode b_Model_call 45 = .ok (.iload_n 1, 1) := by decide +kernel
theorem d_Model_call_46 : decode b_Model_call 46 = .ok (.iaload, 1) := by decide +kernel
theorem d_Model_call_47 : decode b_Model_call 47 = .ok (.if_icmp .le 27, 3) := by decide +kernel
theorem d_Model_call_50 : decode b_Model_call 50 = .ok (.aload_n 0, 1) := by decide +kernel
theorem d_Model_call_51 : decode b_Model_call 51 = .ok (.dup, 1) := by decide +kernel
theorem d_Model_call_52 : decode b_Model_call 52 = .ok (.getfield 96, 3) := by decide +kernel
theorem d_Model_call_55 : decode b_Model_call 55 = .ok (.aload_n 0, 1) := by decide +kernel
theorem d_Model_call_56 : decode b_Model_call 56 = .ok (.getfield 19, 3) := by decide +kernel
theorem d_Model_call_59 : decode b_Model_call 59 = .ok (.iload_n 1, 1) := by decide +kernel
theorem d_Model_call_60 : decode b_Model_call 60 = .ok (.iaload, 1) := by decide +kernel
theorem d_Model_call_61 : decode b_Model_call 61 = .ok (.iadd, 1) := by decide +kernel
theorem d_Model_call_62 : decode b_Model_call 62 = .ok (.putfield 96, 3) := by decide +kernel
theorem d_Model_call_65 : decode b_Model_call 65 = .ok (.aload_n 0, 1) := by decide +kernel
theorem d_Model_call_66 : decode b_Model_call 66 = .ok (.iload_n 3, 1) := by decide +kernel
theorem d_Model_call_67 : decode b_Model_call 67 = .ok (.bipush 100, 2) := by decide +kernel
theorem d_Model_call_69 : decode b_Model_call 69 = .ok (.iconst 0, 1) := by decide +kernel
theorem d_Model_call_70 : decode b_Model_call 70 = .ok (.invokevirtual 99, 3) := by decide +kernel
theorem d_Model_call_73 : decode b_Model_call 73 = .ok (.return_, 1) := by decide +kernel
theorem d_Model_call_74 : decode b_Model_call 74 = .ok (.aload_n 0, 1) := by decide +kernel
theorem d_Model_call_75 : decode b_Model_call 75 = .ok (.dup, 1) := by decide +kernel
theorem d_Model_call_76 : decode b_Model_call 76 = .ok (.getfield 96, 3) := by decide +kernel
theorem d_Model_call_79 : decode b_Model_call 79 = .ok (.aload_n 0, 1) := by decide +kernel
theorem d_Model_call_80 : decode b_Model_call 80 = .ok (.getfield 44, 3) := by decide +kernel
theorem d_Model_call_83 : decode b_Model_call 83 = .ok (.iload 4, 2) := by decide +kernel
theorem d_Model_call_85 : decode b_Model_call 85 = .ok (.iaload, 1) := by decide +kernel
theorem d_Model_call_86 : decode b_Model_call 86 = .ok (.iadd, 1) := by decide +kernel
theorem d_Model_call_87 : decode b_Model_call 87 = .ok (.putfield 96, 3) := by decide +kernel
theorem d_Model_call_90 : decode b_Model_call 90 = .ok (.aload_n 0, 1) := by decide +kernel
theorem d_Model_call_91 : decode b_Model_call 91 = .ok (.getfield 38, 3) := by decide +kernel
theorem d_Model_call_94 : decode b_Model_call 94 = .ok (.iload 4, 2) := by decide +kernel
theorem d_Model_call_96 : decode b_Model_call 96 = .ok (.iaload, 1) := by decide +kernel
theorem d_Model_call_97 : decode b_Model_call 97 = .ok (.ifCond .eq 31, 3) := by decide +kernel
theorem d_Model_call_100 : decode b_Model_call 100 = .ok (.aload_n 0, 1) := by decide +kernel
theorem d_Model_call_101 : decode b_Model_call 101 = .ok (.iload_n 3, 1) := by decide +kernel
theorem d_Model_call_102 : decode b_Model_call 102 = .ok (.aload_n 0, 1) := by decide +kernel
theorem d_Model_call_103 : decode b_Model_call 103 = .ok (.getfield 41, 3) := by decide +kernel
theorem d_Model_call_106 : decode b_Model_call 106 = .ok (.iload 4, 2) := by decide +kernel
theorem d_Model_call_108 : decode b_Model_call 108 = .ok (.iaload, 1) := by decide +kernel
theorem d_Model_call_109 : decode b_Model_call 109 = .ok (.aload_n 0, 1) := by decide +kernel
theorem d_Model_call_110 : decode b_Model_call 110 = .ok (.getfield 38, 3) := by decide +kernel
theorem d_Model_call_113 : decode b_Model_call 113 = .ok (.iload 4, 2) := by decide +kernel
theorem d_Model_call_115 : decode b_Model_call 115 = .ok (.iaload, 1) := by decide +kernel
theorem d_Model_call_116 : decode b_Model_call 116 = .ok (.iconst 2, 1) := by decide +kernel
theorem d_Model_call_117 : decode b_Model_call 117 = .ok (.if_icmp .ne 7, 3) := by decide +kernel
theorem d_Model_call_120 : decode b_Model_call 120 = .ok (.iconst 1, 1) := by decide +kernel
theorem d_Model_call_121 : decode b_Model_call 121 = .ok (.goto 4, 3) := by decide +kernel
theorem d_Model_call_124 : decode b_Model_call 124 = .ok (.iconst 0, 1) := by decide +kernel
theorem d_Model_call_125 : decode b_Model_call 125 = .ok (.invokevirtual 99, 3) := by decide +kernel
theorem d_Model_call_128 : decode b_Model_call 128 = .ok (.return_, 1) := by decide +kernel
theorem d_Model_note_0 : decode b_Model_note 0 = .ok (.aload_n 0, 1) := by decide +kernel
theorem d_Model_note_1 : decode b_Model_note 1 = .ok (.getfield 103, 3) := by decide +kernel
theorem d_Model_note_4 : decode b_Model_note 4 = .ok (.istore 4, 2) := by decide +kernel
theorem d_Model_note_6 : decode b_Model_note 6 = .ok (.aload_n 0, 1) := by decide +kernel
theorem d_Model_note_7 : decode b_Model_note 7 = .ok (.dup, 1) := by decide +kernel
theorem d_Model_note_8 : decode b_Model_note 8 = .ok (.getfield 103, 3) := by decide +kernel
theorem d_Model_note_11 : decode b_Model_note 11 = .ok (.iconst 1, 1) := by decide +kernel
theorem d_Model_note_12 : decode b_Model_note 12 = .ok (.iadd, 1) := by decide +kernel
theorem d_Model_note_13 : decode b_Model_note 13 = .ok (.putfield 103, 3) := by decide +kernel
theorem d_Model_note_16 : decode b_Model_note 16 = .ok (.iload_n 1, 1) := by decide +kernel
theorem d_Model_note_17 : decode b_Model_note 17 = .ok (.iconst 3, 1) := by decide +kernel
theorem d_Model_note_18 : decode b_Model_note 18 = .ok (.if_icmp .ne 13, 3) := by decide +kernel
theorem d_Model_note_21 : decode b_Model_note 21 = .ok (.aload_n 0, 1) := by decide +kernel
theorem d_Model_note_22 : decode b_Model_note 22 = .ok (.dup, 1) := by decide +kernel
theorem d_Model_note_23 : decode b_Model_note 23 = .ok (.getfield 106, 3) := by decide +kernel
theorem d_Model_note_26 : decode b_Model_note 26 = .ok (.iconst 1, 1) := by decide +kernel
theorem d_Model_note_27 : decode b_Model_note 27 = .ok (.iadd, 1) := by decide +kernel
theorem d_Model_note_28 : decode b_Model_note 28 = .ok (.putfield 106, 3) := by decide +kernel
theorem d_Model_note_31 : decode b_Model_note 31 = .ok (.iload 4, 2) := by decide +kernel
theorem d_Model_note_33 : decode b_Model_note 33 = .ok (.sipush 150, 3) := by decide +kernel
theorem d_Model_note_36 : decode b_Model_note 36 = .ok (.if_icmp .lt 4, 3) := by decide +kernel
theorem d_Model_note_39 : decode b_Model_note 39 = .ok (.return_, 1) := by decide +kernel
theorem d_Model_note_40 : decode b_Model_note 40 = .ok (.iconst 4, 1) := by decide +kernel
theorem d_Model_note_41 : decode b_Model_note 41 = .ok (.istore 5, 2) := by decide +kernel
theorem d_Model_note_43 : decode b_Model_note 43 = .ok (.iload 5, 2) := by decide +kernel
theorem d_Model_note_45 : decode b_Model_note 45 = .ok (.bipush 8, 2) := by decide +kernel
theorem d_Model_note_47 : decode b_Model_note 47 = .ok (.if_icmp .ge 23, 3) := by decide +kernel
theorem d_Model_note_50 : decode b_Model_note 50 = .ok (.aload_n 0, 1) := by decide +kernel
theorem d_Model_note_51 : decode b_Model_note 51 = .ok (.getfield 69, 3) := by decide +kernel
theorem d_Model_note_54 : decode b_Model_note 54 = .ok (.iload 4, 2) := by decide +kernel
theorem d_Model_note_56 : decode b_Model_note 56 = .ok (.bipush 8, 2) := by decide +kernel
theorem d_Model_note_58 : decode b_Model_note 58 = .ok (.imul, 1) := by decide +kernel
theorem d_Model_note_59 : decode b_Model_note 59 = .ok (.iload 5, 2) := by decide +kernel
theorem d_Model_note_61 : decode b_Model_note 61 = .ok (.iadd, 1) := by decide +kernel
theorem d_Model_note_62 : decode b_Model_note 62 = .ok (.iconst 0, 1) := by decide +kernel
theorem d_Model_note_63 : decode b_Model_note 63 = .ok (.iastore, 1) := by decide +kernel
theorem d_Model_note_64 : decode b_Model_note 64 = .ok (.iinc 5 1, 3) := by decide +kernel
theorem d_Model_note_67 : decode b_Model_note 67 = .ok (.goto (-24), 3) := by decide +kernel
theorem d_Model_note_70 : decode b_Model_note 70 = .ok (.aload_n 0, 1) := by decide +kernel
theorem d_Model_note_71 : decode b_Model_note 71 = .ok (.getfield 69, 3) := by decide +kernel
theorem d_Model_note_74 : decode b_Model_note 74 = .ok (.iload 4, 2) := by decide +kernel
theorem d_Model_note_76 : decode b_Model_note 76 = .ok (.bipush 8, 2) := by decide +kernel
theorem d_Model_note_78 : decode b_Model_note 78 = .ok (.imul, 1) := by decide +kernel
theorem d_Model_note_79 : decode b_Model_note 79 = .ok (.iload_n 1, 1) := by decide +kernel
theorem d_Model_note_80 : decode b_Model_note 80 = .ok (.iastore, 1) := by decide +kernel
theorem d_Model_note_81 : decode b_Model_note 81 = .ok (.aload_n 0, 1) := by decide +kernel
theorem d_Model_note_82 : decode b_Model_note 82 = .ok (.getfield 69, 3) := by decide +kernel
theorem d_Model_note_85 : decode b_Model_note 85 = .ok (.iload 4, 2) := by decide +kernel
theorem d_Model_note_87 : decode b_Model_note 87 = .ok (.bipush 8, 2) := by decide +kernel
theorem d_Model_note_89 : decode b_Model_note 89 = .ok (.imul, 1) := by decide +kernel
theorem d_Model_note_90 : decode b_Model_note 90 = .ok (.iconst 1, 1) := by decide +kernel
theorem d_Model_note_91 : decode b_Model_note 91 = .ok (.iadd, 1) := by decide +kernel
theorem d_Model_note_92 : decode b_Model_note 92 = .ok (.iload_n 2, 1) := by decide +kernel
theorem d_Model_note_93 : decode b_Model_note 93 = .ok (.iastore, 1) := by decide +kernel
theorem d_Model_note_94 : decode b_Model_note 94 = .ok (.aload_n 0, 1) := by decide +kernel
theorem d_Model_note_95 : decode b_Model_note 95 = .ok (.getfield 69, 3) := by decide +kernel
theorem d_Model_note_98 : decode b_Model_note 98 = .ok (.iload 4, 2) := by decide +kernel
theorem d_Model_note_100 : decode b_Model_note 100 = .ok (.bipush 8, 2) := by decide +kernel
theorem d_Model_note_102 : decode b_Model_note 102 = .ok (.imul, 1) := by decide +kernel
theorem d_Model_note_103 : decode b_Model_note 103 = .ok (.iconst 2, 1) := by decide +kernel
theorem d_Model_note_104 : decode b_Model_note 104 = .ok (.iadd, 1) := by decide +kernel
theorem d_Model_note_105 : decode b_Model_note 105 = .ok (.iload_n 3, 1) := by decide +kernel
theorem d_Model_note_106 : decode b_Model_note 106 = .ok (.iastore, 1) := by decide +kernel
theorem d_Model_note_107 : decode b_Model_note 107 = .ok (.aload_n 0, 1) := by decide +kernel
theorem d_Model_note_108 : decode b_Model_note 108 = .ok (.getfield 69, 3) := by decide +kernel
theorem d_Model_note_111 : decode b_Model_note 111 = .ok (.iload 4, 2) := by decide +kernel
theorem d_Model_note_113 : decode b_Model_note 113 = .ok (.bipush 8, 2) := by decide +kernel
theorem d_Model_note_115 : decode b_Model_note 115 = .ok (.imul, 1) := by decide +kernel
theorem d_Model_note_116 : decode b_Model_note 116 = .ok (.iconst 3, 1) := by decide +kernel
theorem d_Model_note_117 : decode b_Model_note 117 = .ok (.iadd, 1) := by decide +kernel
theorem d_Model_note_118 : decode b_Model_note 118 = .ok (.aload_n 0, 1) := by decide +kernel
theorem d_Model_note_119 : decode b_Model_note 119 = .ok (.getfield 96, 3) := by decide +kernel
theorem d_Model_note_122 : decode b_Model_note 122 = .ok (.iastore, 1) := by decide +kernel
theorem d_Model_note_123 : decode b_Model_note 123 = .ok (.return_, 1) := by decide +kernel
theorem d_Model_status_0 : decode b_Model_status 0 = .ok (.aload_n 0, 1) := by decide +kernel
theorem d_Model_status_1 : decode b_Model_status 1 = .ok (.getfield 66, 3) := by decide +kernel
theorem d_Model_status_4 : decode b_Model_status 4 = .ok (.iload_n 1, 1) := by decide +kernel
theorem d_Model_status_5 : decode b_Model_status 5 = .ok (.iaload, 1) := by decide +kernel
theorem d_Model_status_6 : decode b_Model_status 6 = .ok (.ifCond .ne 5, 3) := by decide +kernel
theorem d_Model_status_9 : decode b_Model_status 9 = .ok (.iconst 0, 1) := by decide +kernel
theorem d_Model_status_10 : decode b_Model_status 10 = .ok (.ireturn, 1) := by decide +kernel
theorem d_Model_status_11 : decode b_Model_status 11 = .ok (.aload_n 0, 1) := by decide +kernel
theorem d_Model_status_12 : decode b_Model_status 12 = .ok (.getfield 63, 3) := by decide +kernel
theorem d_Model_status_15 : decode b_Model_status 15 = .ok (.iload_n 1, 1) := by decide +kernel
theorem d_Model_status_16 : decode b_Model_status 16 = .ok (.iconst 4, 1) := by decide +kernel
theorem d_Model_status_17 : decode b_Model_status 17 = .ok (.if_icmp .ge 9, 3) := by decide +kernel
theorem d_Model_status_20 : decode b_Model_status 20 = .ok (.iload_n 1, 1) := by decide +kernel
theorem d_Model_status_21 : decode b_Model_status 21 = .ok (.iconst 2, 1) := by decide +kernel
theorem d_Model_status_22 : decode b_Model_status 22 = .ok (.imul, 1) := by decide +kernel
theorem d_Model_status_23 : decode b_Model_status 23 = .ok (.goto 5, 3) := by decide +kernel
theorem d_Model_status_26 : decode b_Model_status 26 = .ok (.bipush 8, 2) := by decide +kernel
theorem d_Model_status_28 : decode b_Model_status 28 = .ok (.iaload, 1) := by decide +kernel
theorem d_Model_status_29 : decode b_Model_status 29 = .ok (.iconst 1, 1) := by decide +kernel
theorem d_Model_status_30 : decode b_Model_status 30 = .ok (.if_icmp .ne 7, 3) := by decide +kernel
theorem d_Model_status_33 : decode b_Model_status 33 = .ok (.iconst 2, 1) := by decide +kernel
theorem d_Model_status_34 : decode b_Model_status 34 = .ok (.goto 4, 3) := by decide +kernel
theorem d_Model_status_37 : decode b_Model_status 37 = .ok (.iconst 1, 1) := by decide +kernel
theorem d_Model_status_38 : decode b_Model_status 38 = .ok (.ireturn, 1) := by decide +kernel
theorem d_Model_finish_0 : decode b_Model_finish 0 = .ok (.aload_n 0, 1) := by decide +kernel
theorem d_Model_finish_1 : decode b_Model_finish 1 = .ok (.iconst 2, 1) := by decide +kernel
theorem d_Model_finish_2 : decode b_Model_finish 2 = .ok (.iload_n 1, 1) := by decide +kernel
theorem d_Model_finish_3 : decode b_Model_finish 3 = .ok (.iload_n 2, 1) := by decide +kernel
theorem d_Model_finish_4 : decode b_Model_finish 4 = .ok (.invokevirtual 109, 3) := by decide +kernel
theorem d_Model_finish_7 : decode b_Model_finish 7 = .ok (.aload_n 0, 1) := by decide +kernel
theorem d_Model_finish_8 : decode b_Model_finish 8 = .ok (.iload_n 3, 1) := by decide +kernel
theorem d_Model_finish_9 : decode b_Model_finish 9 = .ok (.invokevirtual 113, 3) := by decide +kernel
theorem d_Model_finish_12 : decode b_Model_finish 12 = .ok (.istore 5, 2) := by decide +kernel
theorem d_Model_finish_14 : decode b_Model_finish 14 = .ok (.iload_n 3, 1) := by decide +kernel
theorem d_Model_finish_15 : decode b_Model_finish 15 = .ok (.iconst 4, 1) := by decide +kernel
theorem d_Model_finish_16 : decode b_Model_finish 16 = .ok (.if_icmp .ge 9, 3) := by decide +kernel
theorem d_Model_finish_19 : decode b_Model_finish 19 = .ok (.iload_n 3, 1) := by decide +kernel
theorem d_Model_finish_20 : decode b_Model_finish 20 = .ok (.iconst 2, 1) := by decide +kernel
theorem d_Model_finish_21 : decode b_Model_finish 21 = .ok (.imul, 1) := by decide +kernel
theorem d_Model_finish_22 : decode b_Model_finish 22 = .ok (.goto 5, 3) := by decide +kernel
theorem d_Model_finish_25 : decode b_Model_finish 25 = .ok (.bipush 8, 2) := by decide +kernel
theorem d_Model_finish_27 : decode b_Model_finish 27 = .ok (.istore 6, 2) := by decide +kernel
theorem d_Model_finish_29 : decode b_Model_finish 29 = .ok (.aload_n 0, 1) := by decide +kernel
theorem d_Model_finish_30 : decode b_Model_finish 30 = .ok (.getfield 103, 3) := by decide +kernel
theorem d_Model_finish_33 : decode b_Model_finish 33 = .ok (.iconst 1, 1) := by decide +kernel
theorem d_Model_finish_34 : decode b_Model_finish 34 = .ok (.isub, 1) := by decide +kernel
end
section
theorem d_Model_finish_35 : decode b_Model_finish 35 = .ok (.istore 7, 2) := by decide +kernel
theorem d_Model_finish_37 : decode b_Model_finish 37 = .ok (.iload 5, 2) := by decide +kernel
theorem d_Model_finish_39 : decode b_Model_finish 39 = .ok (.iconst 1, 1) := by decide +kernel
theorem d_Model_finish_40 : decode b_Model_finish 40 = .ok (.if_icmp .ne 8, 3) := by decide +kernel
theorem d_Model_finish_43 : decode b_Model_finish 43 = .ok (.aload_n 0, 1) := by decide +kernel
theorem d_Model_finish_44 : decode b_Model_finish 44 = .ok (.iconst 1, 1) := by decide +kernel
theorem d_Model_finish_45 : decode b_Model_finish 45 = .ok (.putfield 116, 3) := by decide +kernel
theorem d_Model_finish_48 : decode b_Model_finish 48 = .ok (.iload_n 3, 1) := by decide +kernel
theorem d_Model_finish_49 : decode b_Model_finish 49 = .ok (.iconst 4, 1) := by decide +kernel
theorem d_Model_finish_50 : decode b_Model_finish 50 = .ok (.if_icmp .ge 18, 3) := by decide +kernel
theorem d_Model_finish_53 : decode b_Model_finish 53 = .ok (.iload 5, 2) := by decide +kernel
theorem d_Model_finish_55 : decode b_Model_finish 55 = .ok (.ifCond .eq 13, 3) := by decide +kernel
theorem d_Model_finish_58 : decode b_Model_finish 58 = .ok (.aload_n 0, 1) := by decide +kernel
theorem d_Model_finish_59 : decode b_Model_finish 59 = .ok (.dup, 1) := by decide +kernel
theorem d_Model_finish_60 : decode b_Model_finish 60 = .ok (.getfield 120, 3) := by decide +kernel
theorem d_Model_finish_63 : decode b_Model_finish 63 = .ok (.iconst 1, 1) := by decide +kernel
theorem d_Model_finish_64 : decode b_Model_finish 64 = .ok (.iadd, 1) := by decide +kernel
theorem d_Model_finish_65 : decode b_Model_finish 65 = .ok (.putfield 120, 3) := by decide +kernel
theorem d_Model_finish_68 : decode b_Model_finish 68 = .ok (.iload_n 3, 1) := by decide +kernel
theorem d_Model_finish_69 : decode b_Model_finish 69 = .ok (.iconst 4, 1) := by decide +kernel
theorem d_Model_finish_70 : decode b_Model_finish 70 = .ok (.if_icmp .ne 18, 3) := by decide +kernel
theorem d_Model_finish_73 : decode b_Model_finish 73 = .ok (.iload 5, 2) := by decide +kernel
theorem d_Model_finish_75 : decode b_Model_finish 75 = .ok (.ifCond .ne 13, 3) := by decide +kernel
theorem d_Model_finish_78 : decode b_Model_finish 78 = .ok (.aload_n 0, 1) := by decide +kernel
theorem d_Model_finish_79 : decode b_Model_finish 79 = .ok (.dup, 1) := by decide +kernel
theorem d_Model_finish_80 : decode b_Model_finish 80 = .ok (.getfield 123, 3) := by decide +kernel
theorem d_Model_finish_83 : decode b_Model_finish 83 = .ok (.iconst 1, 1) := by decide +kernel
theorem d_Model_finish_84 : decode b_Model_finish 84 = .ok (.iadd, 1) := by decide +kernel
theorem d_Model_finish_85 : decode b_Model_finish 85 = .ok (.putfield 123, 3) := by decide +kernel
theorem d_Model_finish_88 : decode b_Model_finish 88 = .ok (.iload_n 3, 1) := by decide +kernel
theorem d_Model_finish_89 : decode b_Model_finish 89 = .ok (.iconst 4, 1) := by decide +kernel
theorem d_Model_finish_90 : decode b_Model_finish 90 = .ok (.if_icmp .ne 19, 3) := by decide +kernel
theorem d_Model_finish_93 : decode b_Model_finish 93 = .ok (.iload 5, 2) := by decide +kernel
theorem d_Model_finish_95 : decode b_Model_finish 95 = .ok (.iconst 1, 1) := by decide +kernel
theorem d_Model_finish_96 : decode b_Model_finish 96 = .ok (.if_icmp .ne 13, 3) := by decide +kernel
theorem d_Model_finish_99 : decode b_Model_finish 99 = .ok (.aload_n 0, 1) := by decide +kernel
theorem d_Model_finish_100 : decode b_Model_finish 100 = .ok (.dup, 1) := by decide +kernel
theorem d_Model_finish_101 : decode b_Model_finish 101 = .ok (.getfield 126, 3) := by decide +kernel
theorem d_Model_finish_104 : decode b_Model_finish 104 = .ok (.iconst 1, 1) := by decide +kernel
theorem d_Model_finish_105 : decode b_Model_finish 105 = .ok (.iadd, 1) := by decide +kernel
theorem d_Model_finish_106 : decode b_Model_finish 106 = .ok (.putfield 126, 3) := by decide +kernel
theorem d_Model_finish_109 : decode b_Model_finish 109 = .ok (.iload_n 3, 1) := by decide +kernel
theorem d_Model_finish_110 : decode b_Model_finish 110 = .ok (.iconst 4, 1) := by decide +kernel
theorem d_Model_finish_111 : decode b_Model_finish 111 = .ok (.if_icmp .ne 19, 3) := by decide +kernel
theorem d_Model_finish_114 : decode b_Model_finish 114 = .ok (.iload 5, 2) := by decide +kernel
theorem d_Model_finish_116 : decode b_Model_finish 116 = .ok (.iconst 2, 1) := by decide +kernel
theorem d_Model_finish_117 : decode b_Model_finish 117 = .ok (.if_icmp .ne 13, 3) := by decide +kernel
theorem d_Model_finish_120 : decode b_Model_finish 120 = .ok (.aload_n 0, 1) := by decide +kernel
theorem d_Model_finish_121 : decode b_Model_finish 121 = .ok (.dup, 1) := by decide +kernel
theorem d_Model_finish_122 : decode b_Model_finish 122 = .ok (.getfield 129, 3) := by decide +kernel
theorem d_Model_finish_125 : decode b_Model_finish 125 = .ok (.iconst 1, 1) := by decide +kernel
theorem d_Model_finish_126 : decode b_Model_finish 126 = .ok (.iadd, 1) := by decide +kernel
theorem d_Model_finish_127 : decode b_Model_finish 127 = .ok (.putfield 129, 3) := by decide +kernel
theorem d_Model_finish_130 : decode b_Model_finish 130 = .ok (.iload 7, 2) := by decide +kernel
theorem d_Model_finish_132 : decode b_Model_finish 132 = .ok (.sipush 150, 3) := by decide +kernel
theorem d_Model_finish_135 : decode b_Model_finish 135 = .ok (.if_icmp .lt 4, 3) := by decide +kernel
theorem d_Model_finish_138 : decode b_Model_finish 138 = .ok (.return_, 1) := by decide +kernel
theorem d_Model_finish_139 : decode b_Model_finish 139 = .ok (.aload_n 0, 1) := by decide +kernel
theorem d_Model_finish_140 : decode b_Model_finish 140 = .ok (.getfield 69, 3) := by decide +kernel
theorem d_Model_finish_143 : decode b_Model_finish 143 = .ok (.iload 7, 2) := by decide +kernel
theorem d_Model_finish_145 : decode b_Model_finish 145 = .ok (.bipush 8, 2) := by decide +kernel
theorem d_Model_finish_147 : decode b_Model_finish 147 = .ok (.imul, 1) := by decide +kernel
theorem d_Model_finish_148 : decode b_Model_finish 148 = .ok (.iconst 4, 1) := by decide +kernel
theorem d_Model_finish_149 : decode b_Model_finish 149 = .ok (.iadd, 1) := by decide +kernel
theorem d_Model_finish_150 : decode b_Model_finish 150 = .ok (.iload 5, 2) := by decide +kernel
theorem d_Model_finish_152 : decode b_Model_finish 152 = .ok (.iastore, 1) := by decide +kernel
theorem d_Model_finish_153 : decode b_Model_finish 153 = .ok (.aload_n 0, 1) := by decide +kernel
theorem d_Model_finish_154 : decode b_Model_finish 154 = .ok (.getfield 69, 3) := by decide +kernel
theorem d_Model_finish_157 : decode b_Model_finish 157 = .ok (.iload 7, 2) := by decide +kernel
theorem d_Model_finish_159 : decode b_Model_finish 159 = .ok (.bipush 8, 2) := by decide +kernel
theorem d_Model_finish_161 : decode b_Model_finish 161 = .ok (.imul, 1) := by decide +kernel
theorem d_Model_finish_162 : decode b_Model_finish 162 = .ok (.iconst 5, 1) := by decide +kernel
theorem d_Model_finish_163 : decode b_Model_finish 163 = .ok (.iadd, 1) := by decide +kernel
theorem d_Model_finish_164 : decode b_Model_finish 164 = .ok (.iload 5, 2) := by decide +kernel
theorem d_Model_finish_166 : decode b_Model_finish 166 = .ok (.ifCond .ne 7, 3) := by decide +kernel
theorem d_Model_finish_169 : decode b_Model_finish 169 = .ok (.iconst (-1), 1) := by decide +kernel
theorem d_Model_finish_170 : decode b_Model_finish 170 = .ok (.goto 10, 3) := by decide +kernel
theorem d_Model_finish_173 : decode b_Model_finish 173 = .ok (.aload_n 0, 1) := by decide +kernel
theorem d_Model_finish_174 : decode b_Model_finish 174 = .ok (.getfield 60, 3) := by decide +kernel
theorem d_Model_finish_177 : decode b_Model_finish 177 = .ok (.iload 6, 2) := by decide +kernel
theorem d_Model_finish_179 : decode b_Model_finish 179 = .ok (.iaload, 1) := by decide +kernel
theorem d_Model_finish_180 : decode b_Model_finish 180 = .ok (.iastore, 1) := by decide +kernel
theorem d_Model_finish_181 : decode b_Model_finish 181 = .ok (.aload_n 0, 1) := by decide +kernel
theorem d_Model_finish_182 : decode b_Model_finish 182 = .ok (.getfield 69, 3) := by decide +kernel
theorem d_Model_finish_185 : decode b_Model_finish 185 = .ok (.iload 7, 2) := by decide +kernel
theorem d_Model_finish_187 : decode b_Model_finish 187 = .ok (.bipush 8, 2) := by decide +kernel
theorem d_Model_finish_189 : decode b_Model_finish 189 = .ok (.imul, 1) := by decide +kernel
theorem d_Model_finish_190 : decode b_Model_finish 190 = .ok (.bipush 6, 2) := by decide +kernel
theorem d_Model_finish_192 : decode b_Model_finish 192 = .ok (.iadd, 1) := by decide +kernel
theorem d_Model_finish_193 : decode b_Model_finish 193 = .ok (.iload 5, 2) := by decide +kernel
theorem d_Model_finish_195 : decode b_Model_finish 195 = .ok (.ifCond .ne 7, 3) := by decide +kernel
theorem d_Model_finish_198 : decode b_Model_finish 198 = .ok (.iconst 0, 1) := by decide +kernel
theorem d_Model_finish_199 : decode b_Model_finish 199 = .ok (.goto 11, 3) := by decide +kernel
theorem d_Model_finish_202 : decode b_Model_finish 202 = .ok (.aload_n 0, 1) := by decide +kernel
theorem d_Model_finish_203 : decode b_Model_finish 203 = .ok (.getfield 66, 3) := by decide +kernel
theorem d_Model_finish_206 : decode b_Model_finish 206 = .ok (.iload_n 3, 1) := by decide +kernel
theorem d_Model_finish_207 : decode b_Model_finish 207 = .ok (.iaload, 1) := by decide +kernel
theorem d_Model_finish_208 : decode b_Model_finish 208 = .ok (.iconst 1, 1) := by decide +kernel
theorem d_Model_finish_209 : decode b_Model_finish 209 = .ok (.isub, 1) := by decide +kernel
theorem d_Model_finish_210 : decode b_Model_finish 210 = .ok (.iastore, 1) := by decide +kernel
theorem d_Model_finish_211 : decode b_Model_finish 211 = .ok (.aload_n 0, 1) := by decide +kernel
theorem d_Model_finish_212 : decode b_Model_finish 212 = .ok (.getfield 69, 3) := by decide +kernel
theorem d_Model_finish_215 : decode b_Model_finish 215 = .ok (.iload 7, 2) := by decide +kernel
theorem d_Model_finish_217 : decode b_Model_finish 217 = .ok (.bipush 8, 2) := by decide +kernel
theorem d_Model_finish_219 : decode b_Model_finish 219 = .ok (.imul, 1) := by decide +kernel
theorem d_Model_finish_220 : decode b_Model_finish 220 = .ok (.bipush 7, 2) := by decide +kernel
theorem d_Model_finish_222 : decode b_Model_finish 222 = .ok (.iadd, 1) := by decide +kernel
theorem d_Model_finish_223 : decode b_Model_finish 223 = .ok (.iload 4, 2) := by decide +kernel
theorem d_Model_finish_225 : decode b_Model_finish 225 = .ok (.iastore, 1) := by decide +kernel
theorem d_Model_finish_226 : decode b_Model_finish 226 = .ok (.iconst 0, 1) := by decide +kernel
theorem d_Model_finish_227 : decode b_Model_finish 227 = .ok (.istore 8, 2) := by decide +kernel
theorem d_Model_finish_229 : decode b_Model_finish 229 = .ok (.iload 8, 2) := by decide +kernel
theorem d_Model_finish_231 : decode b_Model_finish 231 = .ok (.iconst 4, 1) := by decide +kernel
theorem d_Model_finish_232 : decode b_Model_finish 232 = .ok (.if_icmp .ge 48, 3) := by decide +kernel
theorem d_Model_finish_235 : decode b_Model_finish 235 = .ok (.aload_n 0, 1) := by decide +kernel
theorem d_Model_finish_236 : decode b_Model_finish 236 = .ok (.getfield 72, 3) := by decide +kernel
theorem d_Model_finish_239 : decode b_Model_finish 239 = .ok (.iload 7, 2) := by decide +kernel
theorem d_Model_finish_241 : decode b_Model_finish 241 = .ok (.iconst 4, 1) := by decide +kernel
theorem d_Model_finish_242 : decode b_Model_finish 242 = .ok (.imul, 1) := by decide +kernel
theorem d_Model_finish_243 : decode b_Model_finish 243 = .ok (.iload 8, 2) := by decide +kernel
theorem d_Model_finish_245 : decode b_Model_finish 245 = .ok (.iadd, 1) := by decide +kernel
theorem d_Model_finish_246 : decode b_Model_finish 246 = .ok (.iload 8, 2) := by decide +kernel
theorem d_Model_finish_248 : decode b_Model_finish 248 = .ok (.aload_n 0, 1) := by decide +kernel
theorem d_Model_finish_249 : decode b_Model_finish 249 = .ok (.getfield 66, 3) := by decide +kernel
theorem d_Model_finish_252 : decode b_Model_finish 252 = .ok (.iload_n 3, 1) := by decide +kernel
theorem d_Model_finish_253 : decode b_Model_finish 253 = .ok (.iaload, 1) := by decide +kernel
theorem d_Model_finish_254 : decode b_Model_finish 254 = .ok (.if_icmp .ge 16, 3) := by decide +kernel
theorem d_Model_finish_257 : decode b_Model_finish 257 = .ok (.aload_n 0, 1) := by decide +kernel
theorem d_Model_finish_258 : decode b_Model_finish 258 = .ok (.getfield 60, 3) := by decide +kernel
theorem d_Model_finish_261 : decode b_Model_finish 261 = .ok (.iload 6, 2) := by decide +kernel
theorem d_Model_finish_263 : decode b_Model_finish 263 = .ok (.iload 8, 2) := by decide +kernel
theorem d_Model_finish_265 : decode b_Model_finish 265 = .ok (.iadd, 1) := by decide +kernel
theorem d_Model_finish_266 : decode b_Model_finish 266 = .ok (.iaload, 1) := by decide +kernel
theorem d_Model_finish_267 : decode b_Model_finish 267 = .ok (.goto 6, 3) := by decide +kernel
theorem d_Model_finish_270 : decode b_Model_finish 270 = .ok (.sipush (-1000), 3) := by decide +kernel
theorem d_Model_finish_273 : decode b_Model_finish 273 = .ok (.iastore, 1) := by decide +kernel
theorem d_Model_finish_274 : decode b_Model_finish 274 = .ok (.iinc 8 1, 3) := by decide +kernel
theorem d_Model_finish_277 : decode b_Model_finish 277 = .ok (.goto (-48), 3) := by decide +kernel
theorem d_Model_finish_280 : decode b_Model_finish 280 = .ok (.return_, 1) := by decide +kernel
theorem d_Model_broken_0 : decode b_Model_broken 0 = .ok (.aload_n 0, 1) := by decide +kernel
theorem d_Model_broken_1 : decode b_Model_broken 1 = .ok (.getfield 132, 3) := by decide +kernel
theorem d_Model_broken_4 : decode b_Model_broken 4 = .ok (.ifCond .le 18, 3) := by decide +kernel
theorem d_Model_broken_7 : decode b_Model_broken 7 = .ok (.aload_n 0, 1) := by decide +kernel
theorem d_Model_broken_8 : decode b_Model_broken 8 = .ok (.getfield 126, 3) := by decide +kernel
theorem d_Model_broken_11 : decode b_Model_broken 11 = .ok (.aload_n 0, 1) := by decide +kernel
theorem d_Model_broken_12 : decode b_Model_broken 12 = .ok (.getfield 132, 3) := by decide +kernel
theorem d_Model_broken_15 : decode b_Model_broken 15 = .ok (.if_icmp .lt 7, 3) := by decide +kernel
theorem d_Model_broken_18 : decode b_Model_broken 18 = .ok (.iconst 1, 1) := by decide +kernel
theorem d_Model_broken_19 : decode b_Model_broken 19 = .ok (.goto 4, 3) := by decide +kernel
theorem d_Model_broken_22 : decode b_Model_broken 22 = .ok (.iconst 0, 1) := by decide +kernel
theorem d_Model_broken_23 : decode b_Model_broken 23 = .ok (.ireturn, 1) := by decide +kernel
theorem d_Model_round_0 : decode b_Model_round 0 = .ok (.aload_n 0, 1) := by decide +kernel
theorem d_Model_round_1 : decode b_Model_round 1 = .ok (.iconst 1, 1) := by decide +kernel
theorem d_Model_round_2 : decode b_Model_round 2 = .ok (.iload_n 1, 1) := by decide +kernel
theorem d_Model_round_3 : decode b_Model_round 3 = .ok (.iload_n 2, 1) := by decide +kernel
theorem d_Model_round_4 : decode b_Model_round 4 = .ok (.invokevirtual 109, 3) := by decide +kernel
theorem d_Model_round_7 : decode b_Model_round 7 = .ok (.iconst 0, 1) := by decide +kernel
theorem d_Model_round_8 : decode b_Model_round 8 = .ok (.istore_n 3, 1) := by decide +kernel
theorem d_Model_round_9 : decode b_Model_round 9 = .ok (.iload_n 3, 1) := by decide +kernel
theorem d_Model_round_10 : decode b_Model_round 10 = .ok (.aload_n 0, 1) := by decide +kernel
theorem d_Model_round_11 : decode b_Model_round 11 = .ok (.getfield 135, 3) := by decide +kernel
theorem d_Model_round_14 : decode b_Model_round 14 = .ok (.if_icmp .ge 51, 3) := by decide +kernel
theorem d_Model_round_17 : decode b_Model_round 17 = .ok (.aload_n 0, 1) := by decide +kernel
theorem d_Model_round_18 : decode b_Model_round 18 = .ok (.getfield 25, 3) := by decide +kernel
theorem d_Model_round_21 : decode b_Model_round 21 = .ok (.aload_n 0, 1) := by decide +kernel
theorem d_Model_round_22 : decode b_Model_round 22 = .ok (.getfield 51, 3) := by decide +kernel
theorem d_Model_round_25 : decode b_Model_round 25 = .ok (.iload_n 3, 1) := by decide +kernel
theorem d_Model_round_26 : decode b_Model_round 26 = .ok (.iaload, 1) := by decide +kernel
theorem d_Model_round_27 : decode b_Model_round 27 = .ok (.baload, 1) := by decide +kernel
theorem d_Model_round_28 : decode b_Model_round 28 = .ok (.ifCond .eq 6, 3) := by decide +kernel
theorem d_Model_round_31 : decode b_Model_round 31 = .ok (.goto 28, 3) := by decide +kernel
theorem d_Model_round_34 : decode b_Model_round 34 = .ok (.aload_n 0, 1) := by decide +kernel
theorem d_Model_round_35 : decode b_Model_round 35 = .ok (.dup, 1) := by decide +kernel
theorem d_Model_round_36 : decode b_Model_round 36 = .ok (.getfield 138, 3) := by decide +kernel
theorem d_Model_round_39 : decode b_Model_round 39 = .ok (.iconst 1, 1) := by decide +kernel
theorem d_Model_round_40 : decode b_Model_round 40 = .ok (.iadd, 1) := by decide +kernel
theorem d_Model_round_41 : decode b_Model_round 41 = .ok (.putfield 138, 3) := by decide +kernel
theorem d_Model_round_44 : decode b_Model_round 44 = .ok (.aload_n 0, 1) := by decide +kernel
theorem d_Model_round_45 : decode b_Model_round 45 = .ok (.getfield 57, 3) := by decide +kernel
theorem d_Model_round_48 : decode b_Model_round 48 = .ok (.aload_n 0, 1) := by decide +kernel
theorem d_Model_round_49 : decode b_Model_round 49 = .ok (.getfield 51, 3) := by decide +kernel
theorem d_Model_round_52 : decode b_Model_round 52 = .ok (.iload_n 3, 1) := by decide +kernel
theorem d_Model_round_53 : decode b_Model_round 53 = .ok (.iaload, 1) := by decide +kernel
theorem d_Model_round_54 : decode b_Model_round 54 = .ok (.aload_n 0, 1) := by decide +kernel
theorem d_Model_round_55 : decode b_Model_round 55 = .ok (.getfield 138, 3) := by decide +kernel
theorem d_Model_round_58 : decode b_Model_round 58 = .ok (.iastore, 1) := by decide +kernel
theorem d_Model_round_59 : decode b_Model_round 59 = .ok (.iinc 3 1, 3) := by decide +kernel
theorem d_Model_round_62 : decode b_Model_round 62 = .ok (.goto (-53), 3) := by decide +kernel
theorem d_Model_round_65 : decode b_Model_round 65 = .ok (.aload_n 0, 1) := by decide +kernel
theorem d_Model_round_66 : decode b_Model_round 66 = .ok (.getfield 66, 3) := by decide +kernel
theorem d_Model_round_69 : decode b_Model_round 69 = .ok (.iconst 4, 1) := by decide +kernel
theorem d_Model_round_70 : decode b_Model_round 70 = .ok (.iconst 0, 1) := by decide +kernel
theorem d_Model_round_71 : decode b_Model_round 71 = .ok (.iastore, 1) := by decide +kernel
theorem d_Model_round_72 : decode b_Model_round 72 = .ok (.iconst 0, 1) := by decide +kernel
theorem d_Model_round_73 : decode b_Model_round 73 = .ok (.istore_n 3, 1) := by decide +kernel
theorem d_Model_round_74 : decode b_Model_round 74 = .ok (.iload_n 3, 1) := by decide +kernel
theorem d_Model_round_75 : decode b_Model_round 75 = .ok (.aload_n 0, 1) := by decide +kernel
theorem d_Model_round_76 : decode b_Model_round 76 = .ok (.getfield 135, 3) := by decide +kernel
theorem d_Model_round_79 : decode b_Model_round 79 = .ok (.if_icmp .ge 30, 3) := by decide +kernel
theorem d_Model_round_82 : decode b_Model_round 82 = .ok (.aload_n 0, 1) := by decide +kernel
theorem d_Model_round_83 : decode b_Model_round 83 = .ok (.getfield 66, 3) := by decide +kernel
theorem d_Model_round_86 : decode b_Model_round 86 = .ok (.iconst 4, 1) := by decide +kernel
theorem d_Model_round_87 : decode b_Model_round 87 = .ok (.iaload, 1) := by decide +kernel
theorem d_Model_round_88 : decode b_Model_round 88 = .ok (.ifCond .ne 21, 3) := by decide +kernel
theorem d_Model_round_91 : decode b_Model_round 91 = .ok (.aload_n 0, 1) := by decide +kernel
theorem d_Model_round_92 : decode b_Model_round 92 = .ok (.aload_n 0, 1) := by decide +kernel
theorem d_Model_round_93 : decode b_Model_round 93 = .ok (.getfield 51, 3) := by decide +kernel
theorem d_Model_round_96 : decode b_Model_round 96 = .ok (.iload_n 3, 1) := by decide +kernel
theorem d_Model_round_97 : decode b_Model_round 97 = .ok (.iaload, 1) := by decide +kernel
theorem d_Model_round_98 : decode b_Model_round 98 = .ok (.iconst 1, 1) := by decide +kernel
theorem d_Model_round_99 : decode b_Model_round 99 = .ok (.iconst 4, 1) := by decide +kernel
theorem d_Model_round_100 : decode b_Model_round 100 = .ok (.invokevirtual 141, 3) := by decide +kernel
theorem d_Model_round_103 : decode b_Model_round 103 = .ok (.iinc 3 1, 3) := by decide +kernel
theorem d_Model_round_106 : decode b_Model_round 106 = .ok (.goto (-32), 3) := by decide +kernel
theorem d_Model_round_109 : decode b_Model_round 109 = .ok (.aload_n 0, 1) := by decide +kernel
theorem d_Model_round_110 : decode b_Model_round 110 = .ok (.getfield 66, 3) := by decide +kernel
theorem d_Model_round_113 : decode b_Model_round 113 = .ok (.iconst 4, 1) := by decide +kernel
theorem d_Model_round_114 : decode b_Model_round 114 = .ok (.iaload, 1) := by decide +kernel
theorem d_Model_round_115 : decode b_Model_round 115 = .ok (.ifCond .ne 12, 3) := by decide +kernel
theorem d_Model_round_118 : decode b_Model_round 118 = .ok (.aload_n 0, 1) := by decide +kernel
theorem d_Model_round_119 : decode b_Model_round 119 = .ok (.iload_n 1, 1) := by decide +kernel
theorem d_Model_round_120 : decode b_Model_round 120 = .ok (.iconst 4, 1) := by decide +kernel
theorem d_Model_round_121 : decode b_Model_round 121 = .ok (.iload_n 2, 1) := by decide +kernel
theorem d_Model_round_122 : decode b_Model_round 122 = .ok (.iadd, 1) := by decide +kernel
theorem d_Model_round_123 : decode b_Model_round 123 = .ok (.iconst 4, 1) := by decide +kernel
theorem d_Model_round_124 : decode b_Model_round 124 = .ok (.invokevirtual 141, 3) := by decide +kernel
theorem d_Model_round_127 : decode b_Model_round 127 = .ok (.iload_n 3, 1) := by decide +kernel
theorem d_Model_round_128 : decode b_Model_round 128 = .ok (.iconst 1, 1) := by decide +kernel
theorem d_Model_round_129 : decode b_Model_round 129 = .ok (.isub, 1) := by decide +kernel
theorem d_Model_round_130 : decode b_Model_round 130 = .ok (.istore 4, 2) := by decide +kernel
theorem d_Model_round_132 : decode b_Model_round 132 = .ok (.iload 4, 2) := by decide +kernel
theorem d_Model_round_134 : decode b_Model_round 134 = .ok (.ifCond .lt 22, 3) := by decide +kernel
theorem d_Model_round_137 : decode b_Model_round 137 = .ok (.aload_n 0, 1) := by decide +kernel
theorem d_Model_round_138 : decode b_Model_round 138 = .ok (.aload_n 0, 1) := by decide +kernel
theorem d_Model_round_139 : decode b_Model_round 139 = .ok (.getfield 51, 3) := by decide +kernel
theorem d_Model_round_142 : decode b_Model_round 142 = .ok (.iload 4, 2) := by decide +kernel
theorem d_Model_round_144 : decode b_Model_round 144 = .ok (.iaload, 1) := by decide +kernel
theorem d_Model_round_145 : decode b_Model_round 145 = .ok (.iconst 2, 1) := by decide +kernel
theorem d_Model_round_146 : decode b_Model_round 146 = .ok (.iconst 4, 1) := by decide +kernel
theorem d_Model_round_147 : decode b_Model_round 147 = .ok (.invokevirtual 141, 3) := by decide +kernel
theorem d_Model_round_150 : decode b_Model_round 150 = .ok (.iinc 4 (-1), 3) := by decide +kernel
theorem d_Model_round_153 : decode b_Model_round 153 = .ok (.goto (-21), 3) := by decide +kernel
theorem d_Model_round_156 : decode b_Model_round 156 = .ok (.aload_n 0, 1) := by decide +kernel
theorem d_Model_round_157 : decode b_Model_round 157 = .ok (.iload_n 1, 1) := by decide +kernel
theorem d_Model_round_158 : decode b_Model_round 158 = .ok (.iload_n 2, 1) := by decide +kernel
theorem d_Model_round_159 : decode b_Model_round 159 = .ok (.iconst 4, 1) := by decide +kernel
theorem d_Model_round_160 : decode b_Model_round 160 = .ok (.aload_n 0, 1) := by decide +kernel
theorem d_Model_round_161 : decode b_Model_round 161 = .ok (.getfield 57, 3) := by decide +kernel
theorem d_Model_round_164 : decode b_Model_round 164 = .ok (.aload_n 0, 1) := by decide +kernel
theorem d_Model_round_165 : decode b_Model_round 165 = .ok (.getfield 7, 3) := by decide +kernel
theorem d_Model_round_168 : decode b_Model_round 168 = .ok (.iload_n 1, 1) := by decide +kernel
theorem d_Model_round_169 : decode b_Model_round 169 = .ok (.iaload, 1) := by decide +kernel
theorem d_Model_round_170 : decode b_Model_round 170 = .ok (.iaload, 1) := by decide +kernel
theorem d_Model_round_171 : decode b_Model_round 171 = .ok (.invokevirtual 144, 3) := by decide +kernel
theorem d_Model_round_174 : decode b_Model_round 174 = .ok (.return_, 1) := by decide +kernel
theorem d_Model_enter_0 : decode b_Model_enter 0 = .ok (.aload_n 0, 1) := by decide +kernel
theorem d_Model_enter_1 : decode b_Model_enter 1 = .ok (.iconst 1, 1) := by decide +kernel
theorem d_Model_enter_2 : decode b_Model_enter 2 = .ok (.iload_n 1, 1) := by decide +kernel
theorem d_Model_enter_3 : decode b_Model_enter 3 = .ok (.iconst 0, 1) := by decide +kernel
theorem d_Model_enter_4 : decode b_Model_enter 4 = .ok (.invokevirtual 109, 3) := by decide +kernel
theorem d_Model_enter_7 : decode b_Model_enter 7 = .ok (.aload_n 0, 1) := by decide +kernel
theorem d_Model_enter_8 : decode b_Model_enter 8 = .ok (.getfield 135, 3) := by decide +kernel
theorem d_Model_enter_11 : decode b_Model_enter 11 = .ok (.istore_n 2, 1) := by decide +kernel
theorem d_Model_enter_12 : decode b_Model_enter 12 = .ok (.aload_n 0, 1) := by decide +kernel
theorem d_Model_enter_13 : decode b_Model_enter 13 = .ok (.getfield 51, 3) := by decide +kernel
theorem d_Model_enter_16 : decode b_Model_enter 16 = .ok (.iload_n 2, 1) := by decide +kernel
theorem d_Model_enter_17 : decode b_Model_enter 17 = .ok (.iload_n 1, 1) := by decide +kernel
theorem d_Model_enter_18 : decode b_Model_enter 18 = .ok (.iastore, 1) := by decide +kernel
theorem d_Model_enter_19 : decode b_Model_enter 19 = .ok (.aload_n 0, 1) := by decide +kernel
theorem d_Model_enter_20 : decode b_Model_enter 20 = .ok (.getfield 54, 3) := by decide +kernel
theorem d_Model_enter_23 : decode b_Model_enter 23 = .ok (.iload_n 2, 1) := by decide +kernel
theorem d_Model_enter_24 : decode b_Model_enter 24 = .ok (.iconst (-1), 1) := by decide +kernel
theorem d_Model_enter_25 : decode b_Model_enter 25 = .ok (.iastore, 1) := by decide +kernel
theorem d_Model_enter_26 : decode b_Model_enter 26 = .ok (.aload_n 0, 1) := by decide +kernel
theorem d_Model_enter_27 : decode b_Model_enter 27 = .ok (.dup, 1) := by decide +kernel
theorem d_Model_enter_28 : decode b_Model_enter 28 = .ok (.getfield 135, 3) := by decide +kernel
theorem d_Model_enter_31 : decode b_Model_enter 31 = .ok (.iconst 1, 1) := by decide +kernel
theorem d_Model_enter_32 : decode b_Model_enter 32 = .ok (.iadd, 1) := by decide +kernel
theorem d_Model_enter_33 : decode b_Model_enter 33 = .ok (.putfield 135, 3) := by decide +kernel
theorem d_Model_enter_36 : decode b_Model_enter 36 = .ok (.aload_n 0, 1) := by decide +kernel
theorem d_Model_enter_37 : decode b_Model_enter 37 = .ok (.getfield 25, 3) := by decide +kernel
theorem d_Model_enter_40 : decode b_Model_enter 40 = .ok (.iload_n 1, 1) := by decide +kernel
theorem d_Model_enter_41 : decode b_Model_enter 41 = .ok (.baload, 1) := by decide +kernel
theorem d_Model_enter_42 : decode b_Model_enter 42 = .ok (.ifCond .eq 23, 3) := by decide +kernel
theorem d_Model_enter_45 : decode b_Model_enter 45 = .ok (.aload_n 0, 1) := by decide +kernel
theorem d_Model_enter_46 : decode b_Model_enter 46 = .ok (.dup, 1) := by decide +kernel
theorem d_Model_enter_47 : decode b_Model_enter 47 = .ok (.getfield 138, 3) := by decide +kernel
theorem d_Model_enter_50 : decode b_Model_enter 50 = .ok (.iconst 1, 1) := by decide +kernel
theorem d_Model_enter_51 : decode b_Model_enter 51 = .ok (.iadd, 1) := by decide +kernel
theorem d_Model_enter_52 : decode b_Model_enter 52 = .ok (.putfield 138, 3) := by decide +kernel
theorem d_Model_enter_55 : decode b_Model_enter 55 = .ok (.aload_n 0, 1) := by decide +kernel
theorem d_Model_enter_56 : decode b_Model_enter 56 = .ok (.getfield 57, 3) := by decide +kernel
theorem d_Model_enter_59 : decode b_Model_enter 59 = .ok (.iload_n 1, 1) := by decide +kernel
theorem d_Model_enter_60 : decode b_Model_enter 60 = .ok (.aload_n 0, 1) := by decide +kernel
theorem d_Model_enter_61 : decode b_Model_enter 61 = .ok (.getfield 138, 3) := by decide +kernel
theorem d_Model_enter_64 : decode b_Model_enter 64 = .ok (.iastore, 1) := by decide +kernel
theorem d_Model_enter_65 : decode b_Model_enter 65 = .ok (.aload_n 0, 1) := by decide +kernel
theorem d_Model_enter_66 : decode b_Model_enter 66 = .ok (.getfield 66, 3) := by decide +kernel
theorem d_Model_enter_69 : decode b_Model_enter 69 = .ok (.iload_n 2, 1) := by decide +kernel
theorem d_Model_enter_70 : decode b_Model_enter 70 = .ok (.iconst 0, 1) := by decide +kernel
theorem d_Model_enter_71 : decode b_Model_enter 71 = .ok (.iastore, 1) := by decide +kernel
theorem d_Model_enter_72 : decode b_Model_enter 72 = .ok (.aload_n 0, 1) := by decide +kernel
theorem d_Model_enter_73 : decode b_Model_enter 73 = .ok (.iload_n 1, 1) := by decide +kernel
theorem d_Model_enter_74 : decode b_Model_enter 74 = .ok (.iconst 0, 1) := by decide +kernel
theorem d_Model_enter_75 : decode b_Model_enter 75 = .ok (.iload_n 2, 1) := by decide +kernel
theorem d_Model_enter_76 : decode b_Model_enter 76 = .ok (.invokevirtual 141, 3) := by decide +kernel
theorem d_Model_enter_79 : decode b_Model_enter 79 = .ok (.return_, 1) := by decide +kernel
theorem d_Model_leave_0 : decode b_Model_leave 0 = .ok (.aload_n 0, 1) := by decide +kernel
theorem d_Model_leave_1 : decode b_Model_leave 1 = .ok (.getfield 135, 3) := by decide +kernel
theorem d_Model_leave_4 : decode b_Model_leave 4 = .ok (.iconst 1, 1) := by decide +kernel
theorem d_Model_leave_5 : decode b_Model_leave 5 = .ok (.isub, 1) := by decide +kernel
theorem d_Model_leave_6 : decode b_Model_leave 6 = .ok (.istore_n 1, 1) := by decide +kernel
theorem d_Model_leave_7 : decode b_Model_leave 7 = .ok (.aload_n 0, 1) := by decide +kernel
theorem d_Model_leave_8 : decode b_Model_leave 8 = .ok (.getfield 51, 3) := by decide +kernel
theorem d_Model_leave_11 : decode b_Model_leave 11 = .ok (.iload_n 1, 1) := by decide +kernel
theorem d_Model_leave_12 : decode b_Model_leave 12 = .ok (.iaload, 1) := by decide +kernel
theorem d_Model_leave_13 : decode b_Model_leave 13 = .ok (.istore_n 2, 1) := by decide +kernel
theorem d_Model_leave_14 : decode b_Model_leave 14 = .ok (.aload_n 0, 1) := by decide +kernel
theorem d_Model_leave_15 : decode b_Model_leave 15 = .ok (.iload_n 2, 1) := by decide +kernel
theorem d_Model_leave_16 : decode b_Model_leave 16 = .ok (.iconst 3, 1) := by decide +kernel
theorem d_Model_leave_17 : decode b_Model_leave 17 = .ok (.iload_n 1, 1) := by decide +kernel
theorem d_Model_leave_18 : decode b_Model_leave 18 = .ok (.invokevirtual 141, 3) := by decide +kernel
theorem d_Model_leave_21 : decode b_Model_leave 21 = .ok (.aload_n 0, 1) := by decide +kernel
theorem d_Model_leave_22 : decode b_Model_leave 22 = .ok (.iload_n 2, 1) := by decide +kernel
theorem d_Model_leave_23 : decode b_Model_leave 23 = .ok (.iconst 0, 1) := by decide +kernel
theorem d_Model_leave_24 : decode b_Model_leave 24 = .ok (.iload_n 1, 1) := by decide +kernel
theorem d_Model_leave_25 : decode b_Model_leave 25 = .ok (.aload_n 0, 1) := by decide +kernel
theorem d_Model_leave_26 : decode b_Model_leave 26 = .ok (.getfield 25, 3) := by decide +kernel
theorem d_Model_leave_29 : decode b_Model_leave 29 = .ok (.iload_n 2, 1) := by decide +kernel
theorem d_Model_leave_30 : decode b_Model_leave 30 = .ok (.baload, 1) := by decide +kernel
theorem d_Model_leave_31 : decode b_Model_leave 31 = .ok (.ifCond .eq 12, 3) := by decide +kernel
theorem d_Model_leave_34 : decode b_Model_leave 34 = .ok (.aload_n 0, 1) := by decide +kernel
theorem d_Model_leave_35 : decode b_Model_leave 35 = .ok (.getfield 57, 3) := by decide +kernel
theorem d_Model_leave_38 : decode b_Model_leave 38 = .ok (.iload_n 2, 1) := by decide +kernel
theorem d_Model_leave_39 : decode b_Model_leave 39 = .ok (.iaload, 1) := by decide +kernel
theorem d_Model_leave_40 : decode b_Model_leave 40 = .ok (.goto 4, 3) := by decide +kernel
theorem d_Model_leave_43 : decode b_Model_leave 43 = .ok (.iconst 0, 1) := by decide +kernel
theorem d_Model_leave_44 : decode b_Model_leave 44 = .ok (.invokevirtual 144, 3) := by decide +kernel
theorem d_Model_leave_47 : decode b_Model_leave 47 = .ok (.aload_n 0, 1) := by decide +kernel
theorem d_Model_leave_48 : decode b_Model_leave 48 = .ok (.dup, 1) := by decide +kernel
theorem d_Model_leave_49 : decode b_Model_leave 49 = .ok (.getfield 135, 3) := by decide +kernel
theorem d_Model_leave_52 : decode b_Model_leave 52 = .ok (.iconst 1, 1) := by decide +kernel
theorem d_Model_leave_53 : decode b_Model_leave 53 = .ok (.isub, 1) := by decide +kernel
theorem d_Model_leave_54 : decode b_Model_leave 54 = .ok (.putfield 135, 3) := by decide +kernel
theorem d_Model_leave_57 : decode b_Model_leave 57 = .ok (.return_, 1) := by decide +kernel
theorem d_Model_doNode_0 : decode b_Model_doNode 0 = .ok (.aload_n 0, 1) := by decide +kernel
theorem d_Model_doNode_1 : decode b_Model_doNode 1 = .ok (.getfield 32, 3) := by decide +kernel
theorem d_Model_doNode_4 : decode b_Model_doNode 4 = .ok (.iload_n 1, 1) := by decide +kernel
theorem d_Model_doNode_5 : decode b_Model_doNode 5 = .ok (.baload, 1) := by decide +kernel
theorem d_Model_doNode_6 : decode b_Model_doNode 6 = .ok (.ifCond .ne 4, 3) := by decide +kernel
theorem d_Model_doNode_9 : decode b_Model_doNode 9 = .ok (.return_, 1) := by decide +kernel
theorem d_Model_doNode_10 : decode b_Model_doNode 10 = .ok (.aload_n 0, 1) := by decide +kernel
theorem d_Model_doNode_11 : decode b_Model_doNode 11 = .ok (.getfield 29, 3) := by decide +kernel
theorem d_Model_doNode_14 : decode b_Model_doNode 14 = .ok (.iload_n 1, 1) := by decide +kernel
theorem d_Model_doNode_15 : decode b_Model_doNode 15 = .ok (.baload, 1) := by decide +kernel
theorem d_Model_doNode_16 : decode b_Model_doNode 16 = .ok (.ifCond .ne 10, 3) := by decide +kernel
theorem d_Model_doNode_19 : decode b_Model_doNode 19 = .ok (.aload_n 0, 1) := by decide +kernel
theorem d_Model_doNode_20 : decode b_Model_doNode 20 = .ok (.invokevirtual 148, 3) := by decide +kernel
theorem d_Model_doNode_23 : decode b_Model_doNode 23 = .ok (.ifCond .eq 11, 3) := by decide +kernel
theorem d_Model_doNode_26 : decode b_Model_doNode 26 = .ok (.aload_n 0, 1) := by decide +kernel
theorem d_Model_doNode_27 : decode b_Model_doNode 27 = .ok (.iconst 3, 1) := by decide +kernel
theorem d_Model_doNode_28 : decode b_Model_doNode 28 = .ok (.iload_n 1, 1) := by decide +kernel
theorem d_Model_doNode_29 : decode b_Model_doNode 29 = .ok (.iconst 0, 1) := by decide +kernel
theorem d_Model_doNode_30 : decode b_Model_doNode 30 = .ok (.invokevirtual 109, 3) := by decide +kernel
theorem d_Model_doNode_33 : decode b_Model_doNode 33 = .ok (.return_, 1) := by decide +kernel
theorem d_Model_doNode_34 : decode b_Model_doNode 34 = .ok (.aload_n 0, 1) := by decide +kernel
theorem d_Model_doNode_35 : decode b_Model_doNode 35 = .ok (.getfield 16, 3) := by decide +kernel
theorem d_Model_doNode_38 : decode b_Model_doNode 38 = .ok (.iload_n 1, 1) := by decide +kernel
theorem d_Model_doNode_39 : decode b_Model_doNode 39 = .ok (.iaload, 1) := by decide +kernel
theorem d_Model_doNode_40 : decode b_Model_doNode 40 = .ok (.ifCond .ne 9, 3) := by decide +kernel
theorem d_Model_doNode_43 : decode b_Model_doNode 43 = .ok (.aload_n 0, 1) := by decide +kernel
theorem d_Model_doNode_44 : decode b_Model_doNode 44 = .ok (.iload_n 1, 1) := by decide +kernel
theorem d_Model_doNode_45 : decode b_Model_doNode 45 = .ok (.invokevirtual 152, 3) := by decide +kernel
theorem d_Model_doNode_48 : decode b_Model_doNode 48 = .ok (.return_, 1) := by decide +kernel
theorem d_Model_doNode_49 : decode b_Model_doNode 49 = .ok (.iconst 0, 1) := by decide +kernel
theorem d_Model_doNode_50 : decode b_Model_doNode 50 = .ok (.istore_n 2, 1) := by decide +kernel
theorem d_Model_doNode_51 : decode b_Model_doNode 51 = .ok (.iload_n 2, 1) := by decide +kernel
theorem d_Model_doNode_52 : decode b_Model_doNode 52 = .ok (.aload_n 0, 1) := by decide +kernel
theorem d_Model_doNode_53 : decode b_Model_doNode 53 = .ok (.getfield 16, 3) := by decide +kernel
theorem d_Model_doNode_56 : decode b_Model_doNode 56 = .ok (.iload_n 1, 1) := by decide +kernel
theorem d_Model_doNode_57 : decode b_Model_doNode 57 = .ok (.iaload, 1) := by decide +kernel
theorem d_Model_doNode_58 : decode b_Model_doNode 58 = .ok (.if_icmp .ge 34, 3) := by decide +kernel
theorem d_Model_doNode_61 : decode b_Model_doNode 61 = .ok (.iload_n 2, 1) := by decide +kernel
theorem d_Model_doNode_62 : decode b_Model_doNode 62 = .ok (.ifCond .le 18, 3) := by decide +kernel
theorem d_Model_doNode_65 : decode b_Model_doNode 65 = .ok (.aload_n 0, 1) := by decide +kernel
theorem d_Model_doNode_66 : decode b_Model_doNode 66 = .ok (.invokevirtual 148, 3) := by decide +kernel
theorem d_Model_doNode_69 : decode b_Model_doNode 69 = .ok (.ifCond .eq 11, 3) := by decide +kernel
theorem d_Model_doNode_72 : decode b_Model_doNode 72 = .ok (.aload_n 0, 1) := by decide +kernel
theorem d_Model_doNode_73 : decode b_Model_doNode 73 = .ok (.iconst 3, 1) := by decide +kernel
theorem d_Model_doNode_74 : decode b_Model_doNode 74 = .ok (.iload_n 1, 1) := by decide +kernel
theorem d_Model_doNode_75 : decode b_Model_doNode 75 = .ok (.iload_n 2, 1) := by decide +kernel
theorem d_Model_doNode_76 : decode b_Model_doNode 76 = .ok (.invokevirtual 109, 3) := by decide +kernel
theorem d_Model_doNode_79 : decode b_Model_doNode 79 = .ok (.return_, 1) := by decide +kernel
theorem d_Model_doNode_80 : decode b_Model_doNode 80 = .ok (.aload_n 0, 1) := by decide +kernel
theorem d_Model_doNode_81 : decode b_Model_doNode 81 = .ok (.iload_n 1, 1) := by decide +kernel
theorem d_Model_doNode_82 : decode b_Model_doNode 82 = .ok (.iload_n 2, 1) := by decide +kernel
theorem d_Model_doNode_83 : decode b_Model_doNode 83 = .ok (.invokevirtual 156, 3) := by decide +kernel
theorem d_Model_doNode_86 : decode b_Model_doNode 86 = .ok (.iinc 2 1, 3) := by decide +kernel
theorem d_Model_doNode_89 : decode b_Model_doNode 89 = .ok (.goto (-38), 3) := by decide +kernel
theorem d_Model_doNode_92 : decode b_Model_doNode 92 = .ok (.return_, 1) := by decide +kernel
theorem d_Model_before_0 : decode b_Model_before 0 = .ok (.aload_n 0, 1) := by decide +kernel
theorem d_Model_before_1 : decode b_Model_before 1 = .ok (.getfield 13, 3) := by decide +kernel
theorem d_Model_before_4 : decode b_Model_before 4 = .ok (.iload_n 1, 1) := by decide +kernel
theorem d_Model_before_5 : decode b_Model_before 5 = .ok (.iaload, 1) := by decide +kernel
theorem d_Model_before_6 : decode b_Model_before 6 = .ok (.aload_n 0, 1) := by decide +kernel
theorem d_Model_before_7 : decode b_Model_before 7 = .ok (.getfield 13, 3) := by decide +kernel
theorem d_Model_before_10 : decode b_Model_before 10 = .ok (.iload_n 2, 1) := by decide +kernel
theorem d_Model_before_11 : decode b_Model_before 11 = .ok (.iaload, 1) := by decide +kernel
theorem d_Model_before_12 : decode b_Model_before 12 = .ok (.if_icmp .lt 23, 3) := by decide +kernel
theorem d_Model_before_15 : decode b_Model_before 15 = .ok (.aload_n 0, 1) := by decide +kernel
theorem d_Model_before_16 : decode b_Model_before 16 = .ok (.getfield 13, 3) := by decide +kernel
theorem d_Model_before_19 : decode b_Model_before 19 = .ok (.iload_n 1, 1) := by decide +kernel
theorem d_Model_before_20 : decode b_Model_before 20 = .ok (.iaload, 1) := by decide +kernel
theorem d_Model_before_21 : decode b_Model_before 21 = .ok (.aload_n 0, 1) := by decide +kernel
theorem d_Model_before_22 : decode b_Model_before 22 = .ok (.getfield 13, 3) := by decide +kernel
theorem d_Model_before_25 : decode b_Model_before 25 = .ok (.iload_n 2, 1) := by decide +kernel
theorem d_Model_before_26 : decode b_Model_before 26 = .ok (.iaload, 1) := by decide +kernel
theorem d_Model_before_27 : decode b_Model_before 27 = .ok (.if_icmp .ne 12, 3) := by decide +kernel
theorem d_Model_before_30 : decode b_Model_before 30 = .ok (.iload_n 1, 1) := by decide +kernel
theorem d_Model_before_31 : decode b_Model_before 31 = .ok (.iload_n 2, 1) := by decide +kernel
theorem d_Model_before_32 : decode b_Model_before 32 = .ok (.if_icmp .ge 7, 3) := by decide +kernel
theorem d_Model_before_35 : decode b_Model_before 35 = .ok (.iconst 1, 1) := by decide +kernel
theorem d_Model_before_36 : decode b_Model_before 36 = .ok (.goto 4, 3) := by decide +kernel
theorem d_Model_before_39 : decode b_Model_before 39 = .ok (.iconst 0, 1) := by decide +kernel
theorem d_Model_before_40 : decode b_Model_before 40 = .ok (.ireturn, 1) := by decide +kernel
theorem d_Model_nextChild_0 : decode b_Model_nextChild 0 = .ok (.aload_n 0, 1) := by decide +kernel
theorem d_Model_nextChild_1 : decode b_Model_nextChild 1 = .ok (.getfield 51, 3) := by decide +kernel
theorem d_Model_nextChild_4 : decode b_Model_nextChild 4 = .ok (.aload_n 0, 1) := by decide +kernel
theorem d_Model_nextChild_5 : decode b_Model_nextChild 5 = .ok (.getfield 135, 3) := by decide +kernel
theorem d_Model_nextChild_8 : decode b_Model_nextChild 8 = .ok (.iconst 1, 1) := by decide +kernel
theorem d_Model_nextChild_9 : decode b_Model_nextChild 9 = .ok (.isub, 1) := by decide +kernel
theorem d_Model_nextChild_10 : decode b_Model_nextChild 10 = .ok (.iaload, 1) := by decide +kernel
theorem d_Model_nextChild_11 : decode b_Model_nextChild 11 = .ok (.istore_n 1, 1) := by decide +kernel
theorem d_Model_nextChild_12 : decode b_Model_nextChild 12 = .ok (.aload_n 0, 1) := by decide +kernel
theorem d_Model_nextChild_13 : decode b_Model_nextChild 13 = .ok (.getfield 54, 3) := by decide +kernel
theorem d_Model_nextChild_16 : decode b_Model_nextChild 16 = .ok (.aload_n 0, 1) := by decide +kernel
theorem d_Model_nextChild_17 : decode b_Model_nextChild 17 = .ok (.getfield 135, 3) := by decide +kernel
theorem d_Model_nextChild_20 : decode b_Model_nextChild 20 = .ok (.iconst 1, 1) := by decide +kernel
theorem d_Model_nextChild_21 : decode b_Model_nextChild 21 = .ok (.isub, 1) := by decide +kernel
theorem d_Model_nextChild_22 : decode b_Model_nextChild 22 = .ok (.iaload, 1) := by decide +kernel
theorem d_Model_nextChild_23 : decode b_Model_nextChild 23 = .ok (.istore_n 2, 1) := by decide +kernel
theorem d_Model_nextChild_24 : decode b_Model_nextChild 24 = .ok (.iconst (-1), 1) := by decide +kernel
theorem d_Model_nextChild_25 : decode b_Model_nextChild 25 = .ok (.istore_n 3, 1) := by decide +kernel
theorem d_Model_nextChild_26 : decode b_Model_nextChild 26 = .ok (.iconst 1, 1) := by decide +kernel
theorem d_Model_nextChild_27 : decode b_Model_nextChild 27 = .ok (.istore 4, 2) := by decide +kernel
theorem d_Model_nextChild_29 : decode b_Model_nextChild 29 = .ok (.iload 4, 2) := by decide +kernel
theorem d_Model_nextChild_31 : decode b_Model_nextChild 31 = .ok (.aload_n 0, 1) := by decide +kernel
theorem d_Model_nextChild_32 : decode b_Model_nextChild 32 = .ok (.getfield 47, 3) := by decide +kernel
theorem d_Model_nextChild_35 : decode b_Model_nextChild 35 = .ok (.if_icmp .ge 54, 3) := by decide +kernel
theorem d_Model_nextChild_38 : decode b_Model_nextChild 38 = .ok (.aload_n 0, 1) := by decide +kernel
theorem d_Model_nextChild_39 : decode b_Model_nextChild 39 = .ok (.getfield 7, 3) := by decide +kernel
theorem d_Model_nextChild_42 : decode b_Model_nextChild 42 = .ok (.iload 4, 2) := by decide +kernel
theorem d_Model_nextChild_44 : decode b_Model_nextChild 44 = .ok (.iaload, 1) := by decide +kernel
theorem d_Model_nextChild_45 : decode b_Model_nextChild 45 = .ok (.iload_n 1, 1) := by decide +kernel
theorem d_Model_nextChild_46 : decode b_Model_nextChild 46 = .ok (.if_icmp .ne 37, 3) := by decide +kernel
theorem d_Model_nextChild_49 : decode b_Model_nextChild 49 = .ok (.iload_n 2, 1) := by decide +kernel
theorem d_Model_nextChild_50 : decode b_Model_nextChild 50 = .ok (.ifCond .lt 16, 3) := by decide +kernel
theorem d_Model_nextChild_53 : decode b_Model_nextChild 53 = .ok (.aload_n 0, 1) := by decide +kernel
theorem d_Model_nextChild_54 : decode b_Model_nextChild 54 = .ok (.iload_n 2, 1) := by decide +kernel
theorem d_Model_nextChild_55 : decode b_Model_nextChild 55 = .ok (.iload 4, 2) := by decide +kernel
theorem d_Model_nextChild_57 : decode b_Model_nextChild 57 = .ok (.invokevirtual 160, 3) := by decide +kernel
theorem d_Model_nextChild_60 : decode b_Model_nextChild 60 = .ok (.ifCond .ne 6, 3) := by decide +kernel
theorem d_Model_nextChild_63 : decode b_Model_nextChild 63 = .ok (.goto 20, 3) := by decide +kernel
theorem d_Model_nextChild_66 : decode b_Model_nextChild 66 = .ok (.iload_n 3, 1) := by decide +kernel
theorem d_Model_nextChild_67 : decode b_Model_nextChild 67 = .ok (.ifCond .lt 13, 3) := by decide +kernel
theorem d_Model_nextChild_70 : decode b_Model_nextChild 70 = .ok (.aload_n 0, 1) := by decide +kernel
theorem d_Model_nextChild_71 : decode b_Model_nextChild 71 = .ok (.iload 4, 2) := by decide +kernel
theorem d_Model_nextChild_73 : decode b_Model_nextChild 73 = .ok (.iload_n 3, 1) := by decide +kernel
theorem d_Model_nextChild_74 : decode b_Model_nextChild 74 = .ok (.invokevirtual 160, 3) := by decide +kernel
theorem d_Model_nextChild_77 : decode b_Model_nextChild 77 = .ok (.ifCond .eq 6, 3) := by decide +kernel
theorem d_Model_nextChild_80 : decode b_Model_nextChild 80 = .ok (.iload 4, 2) := by decide +kernel
theorem d_Model_nextChild_82 : decode b_Model_nextChild 82 = .ok (.istore_n 3, 1) := by decide +kernel
theorem d_Model_nextChild_83 : decode b_Model_nextChild 83 = .ok (.iinc 4 1, 3) := by decide +kernel
theorem d_Model_nextChild_86 : decode b_Model_nextChild 86 = .ok (.goto (-57), 3) := by decide +kernel
theorem d_Model_nextChild_89 : decode b_Model_nextChild 89 = .ok (.iload_n 3, 1) := by decide +kernel
theorem d_Model_nextChild_90 : decode b_Model_nextChild 90 = .ok (.ireturn, 1) := by decide +kernel
theorem d_Model_run_0 : decode b_Model_run 0 = .ok (.iload_n 1, 1) := by decide +kernel
theorem d_Model_run_1 : decode b_Model_run 1 = .ok (.ifCond .lt 31, 3) := by decide +kernel
theorem d_Model_run_4 : decode b_Model_run 4 = .ok (.iload_n 1, 1) := by decide +kernel
theorem d_Model_run_5 : decode b_Model_run 5 = .ok (.sipush 255, 3) := by decide +kernel
theorem d_Model_run_8 : decode b_Model_run 8 = .ok (.if_icmp .gt 24, 3) := by decide +kernel
theorem d_Model_run_11 : decode b_Model_run 11 = .ok (.iload_n 2, 1) := by decide +kernel
theorem d_Model_run_12 : decode b_Model_run 12 = .ok (.ifCond .lt 20, 3) := by decide +kernel
theorem d_Model_run_15 : decode b_Model_run 15 = .ok (.iload_n 2, 1) := by decide +kernel
theorem d_Model_run_16 : decode b_Model_run 16 = .ok (.sipush 255, 3) := by decide +kernel
theorem d_Model_run_19 : decode b_Model_run 19 = .ok (.if_icmp .gt 13, 3) := by decide +kernel
theorem d_Model_run_22 : decode b_Model_run 22 = .ok (.iload_n 3, 1) := by decide +kernel
theorem d_Model_run_23 : decode b_Model_run 23 = .ok (.ifCond .lt 9, 3) := by decide +kernel
theorem d_Model_run_26 : decode b_Model_run 26 = .ok (.iload_n 3, 1) := by decide +kernel
theorem d_Model_run_27 : decode b_Model_run 27 = .ok (.bipush 9, 2) := by decide +kernel
theorem d_Model_run_29 : decode b_Model_run 29 = .ok (.if_icmp .le 5, 3) := by decide +kernel
theorem d_Model_run_32 : decode b_Model_run 32 = .ok (.iconst (-1), 1) := by decide +kernel
theorem d_Model_run_33 : decode b_Model_run 33 = .ok (.ireturn, 1) := by decide +kernel
theorem d_Model_run_34 : decode b_Model_run 34 = .ok (.aload_n 0, 1) := by decide +kernel
theorem d_Model_run_35 : decode b_Model_run 35 = .ok (.aload_n 0, 1) := by decide +kernel
theorem d_Model_run_36 : decode b_Model_run 36 = .ok (.aload_n 0, 1) := by decide +kernel
theorem d_Model_run_37 : decode b_Model_run 37 = .ok (.aload_n 0, 1) := by decide +kernel
theorem d_Model_run_38 : decode b_Model_run 38 = .ok (.aload_n 0, 1) := by decide +kernel
theorem d_Model_run_39 : decode b_Model_run 39 = .ok (.aload_n 0, 1) := by decide +kernel
theorem d_Model_run_40 : decode b_Model_run 40 = .ok (.aload_n 0, 1) := by decide +kernel
theorem d_Model_run_41 : decode b_Model_run 41 = .ok (.aload_n 0, 1) := by decide +kernel
theorem d_Model_run_42 : decode b_Model_run 42 = .ok (.aload_n 0, 1) := by decide +kernel
theorem d_Model_run_43 : decode b_Model_run 43 = .ok (.aload_n 0, 1) := by decide +kernel
theorem d_Model_run_44 : decode b_Model_run 44 = .ok (.aload_n 0, 1) := by decide +kernel
theorem d_Model_run_45 : decode b_Model_run 45 = .ok (.iconst 0, 1) := by decide +kernel
theorem d_Model_run_46 : decode b_Model_run 46 = .ok (.dup_x1, 1) := by decide +kernel
theorem d_Model_run_47 : decode b_Model_run 47 = .ok (.putfield 135, 3) := by decide +kernel
theorem d_Model_run_50 : decode b_Model_run 50 = .ok (.dup_x1, 1) := by decide +kernel
theorem d_Model_run_51 : decode b_Model_run 51 = .ok (.putfield 90, 3) := by decide +kernel
theorem d_Model_run_54 : decode b_Model_run 54 = .ok (.dup_x1, 1) := by decide +kernel
theorem d_Model_run_55 : decode b_Model_run 55 = .ok (.putfield 120, 3) := by decide +kernel
theorem d_Model_run_58 : decode b_Model_run 58 = .ok (.dup_x1, 1) := by decide +kernel
theorem d_Model_run_59 : decode b_Model_run 59 = .ok (.putfield 106, 3) := by decide +kernel
theorem d_Model_run_62 : decode b_Model_run 62 = .ok (.dup_x1, 1) := by decide +kernel
theorem d_Model_run_63 : decode b_Model_run 63 = .ok (.putfield 129, 3) := by decide +kernel
theorem d_Model_run_66 : decode b_Model_run 66 = .ok (.dup_x1, 1) := by decide +kernel
theorem d_Model_run_67 : decode b_Model_run 67 = .ok (.putfield 126, 3) := by decide +kernel
theorem d_Model_run_70 : decode b_Model_run 70 = .ok (.dup_x1, 1) := by decide +kernel
theorem d_Model_run_71 : decode b_Model_run 71 = .ok (.putfield 123, 3) := by decide +kernel
theorem d_Model_run_74 : decode b_Model_run 74 = .ok (.dup_x1, 1) := by decide +kernel
theorem d_Model_run_75 : decode b_Model_run 75 = .ok (.putfield 138, 3) := by decide +kernel
theorem d_Model_run_78 : decode b_Model_run 78 = .ok (.dup_x1, 1) := by decide +kernel
theorem d_Model_run_79 : decode b_Model_run 79 = .ok (.putfield 93, 3) := by decide +kernel
theorem d_Model_run_82 : decode b_Model_run 82 = .ok (.dup_x1, 1) := by decide +kernel
theorem d_Model_run_83 : decode b_Model_run 83 = .ok (.putfield 96, 3) := by decide +kernel
theorem d_Model_run_86 : decode b_Model_run 86 = .ok (.putfield 103, 3) := by decide +kernel
theorem d_Model_run_89 : decode b_Model_run 89 = .ok (.aload_n 0, 1) := by decide +kernel
theorem d_Model_run_90 : decode b_Model_run 90 = .ok (.iconst 0, 1) := by decide +kernel
theorem d_Model_run_91 : decode b_Model_run 91 = .ok (.putfield 116, 3) := by decide +kernel
theorem d_Model_run_94 : decode b_Model_run 94 = .ok (.aload_n 0, 1) := by decide +kernel
theorem d_Model_run_95 : decode b_Model_run 95 = .ok (.iload_n 3, 1) := by decide +kernel
theorem d_Model_run_96 : decode b_Model_run 96 = .ok (.putfield 132, 3) := by decide +kernel
theorem d_Model_run_99 : decode b_Model_run 99 = .ok (.aload_n 0, 1) := by decide +kernel
theorem d_Model_run_100 : decode b_Model_run 100 = .ok (.iload_n 1, 1) := by decide +kernel
theorem d_Model_run_101 : decode b_Model_run 101 = .ok (.iload_n 2, 1) := by decide +kernel
theorem d_Model_run_102 : decode b_Model_run 102 = .ok (.invokevirtual 164, 3) := by decide +kernel
theorem d_Model_run_105 : decode b_Model_run 105 = .ok (.aload_n 0, 1) := by decide +kernel
theorem d_Model_run_106 : decode b_Model_run 106 = .ok (.getfield 90, 3) := by decide +kernel
theorem d_Model_run_109 : decode b_Model_run 109 = .ok (.ifCond .ne 5, 3) := by decide +kernel
theorem d_Model_run_112 : decode b_Model_run 112 = .ok (.iconst 0, 1) := by decide +kernel
theorem d_Model_run_113 : decode b_Model_run 113 = .ok (.ireturn, 1) := by decide +kernel
theorem d_Model_run_114 : decode b_Model_run 114 = .ok (.aload_n 0, 1) := by decide +kernel
theorem d_Model_run_115 : decode b_Model_run 115 = .ok (.iconst 0, 1) := by decide +kernel
theorem d_Model_run_116 : decode b_Model_run 116 = .ok (.invokevirtual 167, 3) := by decide +kernel
theorem d_Model_run_119 : decode b_Model_run 119 = .ok (.iconst 0, 1) := by decide +kernel
theorem d_Model_run_120 : decode b_Model_run 120 = .ok (.istore 4, 2) := by decide +kernel
theorem d_Model_run_122 : decode b_Model_run 122 = .ok (.iload 4, 2) := by decide +kernel
theorem d_Model_run_124 : decode b_Model_run 124 = .ok (.sipush 1000, 3) := by decide +kernel
theorem d_Model_run_127 : decode b_Model_run 127 = .ok (.if_icmp .ge 71, 3) := by decide +kernel
theorem d_Model_run_130 : decode b_Model_run 130 = .ok (.aload_n 0, 1) := by decide +kernel
theorem d_Model_run_131 : decode b_Model_run 131 = .ok (.getfield 135, 3) := by decide +kernel
theorem d_Model_run_134 : decode b_Model_run 134 = .ok (.ifCond .le 64, 3) := by decide +kernel
theorem d_Model_run_137 : decode b_Model_run 137 = .ok (.aload_n 0, 1) := by decide +kernel
theorem d_Model_run_138 : decode b_Model_run 138 = .ok (.getfield 66, 3) := by decide +kernel
theorem d_Model_run_141 : decode b_Model_run 141 = .ok (.aload_n 0, 1) := by decide +kernel
theorem d_Model_run_142 : decode b_Model_run 142 = .ok (.getfield 135, 3) := by decide +kernel
theorem d_Model_run_145 : decode b_Model_run 145 = .ok (.iconst 1, 1) := by decide +kernel
theorem d_Model_run_146 : decode b_Model_run 146 = .ok (.isub, 1) := by decide +kernel
theorem d_Model_run_147 : decode b_Model_run 147 = .ok (.iaload, 1) := by decide +kernel
theorem d_Model_run_148 : decode b_Model_run 148 = .ok (.ifCond .ne 10, 3) := by decide +kernel
theorem d_Model_run_151 : decode b_Model_run 151 = .ok (.aload_n 0, 1) := by decide +kernel
theorem d_Model_run_152 : decode b_Model_run 152 = .ok (.invokevirtual 170, 3) := by decide +kernel
theorem d_Model_run_155 : decode b_Model_run 155 = .ok (.goto 4, 3) := by decide +kernel
theorem d_Model_run_158 : decode b_Model_run 158 = .ok (.iconst (-1), 1) := by decide +kernel
theorem d_Model_run_159 : decode b_Model_run 159 = .ok (.istore 5, 2) := by decide +kernel
theorem d_Model_run_161 : decode b_Model_run 161 = .ok (.iload 5, 2) := by decide +kernel
theorem d_Model_run_163 : decode b_Model_run 163 = .ok (.ifCond .ge 10, 3) := by decide +kernel
theorem d_Model_run_166 : decode b_Model_run 166 = .ok (.aload_n 0, 1) := by decide +kernel
theorem d_Model_run_167 : decode b_Model_run 167 = .ok (.invokevirtual 174, 3) := by decide +kernel
theorem d_Model_run_170 : decode b_Model_run 170 = .ok (.goto 22, 3) := by decide +kernel
theorem d_Model_run_173 : decode b_Model_run 173 = .ok (.aload_n 0, 1) := by decide +kernel
theorem d_Model_run_174 : decode b_Model_run 174 = .ok (.getfield 54, 3) := by decide +kernel
theorem d_Model_run_177 : decode b_Model_run 177 = .ok (.aload_n 0, 1) := by decide +kernel
theorem d_Model_run_178 : decode b_Model_run 178 = .ok (.getfield 135, 3) := by decide +kernel
theorem d_Model_run_181 : decode b_Model_run 181 = .ok (.iconst 1, 1) := by decide +kernel
theorem d_Model_run_182 : decode b_Model_run 182 = .ok (.isub, 1) := by decide +kernel
theorem d_Model_run_183 : decode b_Model_run 183 = .ok (.iload 5, 2) := by decide +kernel
theorem d_Model_run_185 : decode b_Model_run 185 = .ok (.iastore, 1) := by decide +kernel
theorem d_Model_run_186 : decode b_Model_run 186 = .ok (.aload_n 0, 1) := by decide +kernel
theorem d_Model_run_187 : decode b_Model_run 187 = .ok (.iload 5, 2) := by decide +kernel
theorem d_Model_run_189 : decode b_Model_run 189 = .ok (.invokevirtual 167, 3) := by decide +kernel
theorem d_Model_run_192 : decode b_Model_run 192 = .ok (.iinc 4 1, 3) := by decide +kernel
theorem d_Model_run_195 : decode b_Model_run 195 = .ok (.goto (-73), 3) := by decide +kernel
theorem d_Model_run_198 : decode b_Model_run 198 = .ok (.aload_n 0, 1) := by decide +kernel
theorem d_Model_run_199 : decode b_Model_run 199 = .ok (.getfield 116, 3) := by decide +kernel
theorem d_Model_run_202 : decode b_Model_run 202 = .ok (.ifCond .eq 7, 3) := by decide +kernel
theorem d_Model_run_205 : decode b_Model_run 205 = .ok (.iconst 1, 1) := by decide +kernel
theorem d_Model_run_206 : decode b_Model_run 206 = .ok (.goto 4, 3) := by decide +kernel
theorem d_Model_run_209 : decode b_Model_run 209 = .ok (.iconst 0, 1) := by decide +kernel
theorem d_Model_run_210 : decode b_Model_run 210 = .ok (.ireturn, 1) := by decide +kernel
theorem d_Model_event_0 : decode b_Model_event 0 = .ok (.iload_n 1, 1) := by decide +kernel
theorem d_Model_event_1 : decode b_Model_event 1 = .ok (.ifCond .lt 28, 3) := by decide +kernel
theorem d_Model_event_4 : decode b_Model_event 4 = .ok (.iload_n 1, 1) := by decide +kernel
theorem d_Model_event_5 : decode b_Model_event 5 = .ok (.aload_n 0, 1) := by decide +kernel
theorem d_Model_event_6 : decode b_Model_event 6 = .ok (.getfield 103, 3) := by decide +kernel
theorem d_Model_event_9 : decode b_Model_event 9 = .ok (.if_icmp .ge 20, 3) := by decide +kernel
theorem d_Model_event_12 : decode b_Model_event 12 = .ok (.iload_n 1, 1) := by decide +kernel
theorem d_Model_event_13 : decode b_Model_event 13 = .ok (.sipush 150, 3) := by decide +kernel
theorem d_Model_event_16 : decode b_Model_event 16 = .ok (.if_icmp .ge 13, 3) := by decide +kernel
theorem d_Model_event_19 : decode b_Model_event 19 = .ok (.iload_n 2, 1) := by decide +kernel
end
section
theorem d_Model_event_20 : decode b_Model_event 20 = .ok (.ifCond .lt 9, 3) := by decide +kernel
theorem d_Model_event_23 : decode b_Model_event 23 = .ok (.iload_n 2, 1) := by decide +kernel
theorem d_Model_event_24 : decode b_Model_event 24 = .ok (.bipush 7, 2) := by decide +kernel
theorem d_Model_event_26 : decode b_Model_event 26 = .ok (.if_icmp .le 9, 3) := by decide +kernel
theorem d_Model_event_29 : decode b_Model_event 29 = .ok (.sipush (-1000), 3) := by decide +kernel
theorem d_Model_event_32 : decode b_Model_event 32 = .ok (.goto 14, 3) := by decide +kernel
theorem d_Model_event_35 : decode b_Model_event 35 = .ok (.aload_n 0, 1) := by decide +kernel
theorem d_Model_event_36 : decode b_Model_event 36 = .ok (.getfield 69, 3) := by decide +kernel
theorem d_Model_event_39 : decode b_Model_event 39 = .ok (.iload_n 1, 1) := by decide +kernel
theorem d_Model_event_40 : decode b_Model_event 40 = .ok (.bipush 8, 2) := by decide +kernel
theorem d_Model_event_42 : decode b_Model_event 42 = .ok (.imul, 1) := by decide +kernel
theorem d_Model_event_43 : decode b_Model_event 43 = .ok (.iload_n 2, 1) := by decide +kernel
theorem d_Model_event_44 : decode b_Model_event 44 = .ok (.iadd, 1) := by decide +kernel
theorem d_Model_event_45 : decode b_Model_event 45 = .ok (.iaload, 1) := by decide +kernel
theorem d_Model_event_46 : decode b_Model_event 46 = .ok (.ireturn, 1) := by decide +kernel
theorem d_Model_trouble_0 : decode b_Model_trouble 0 = .ok (.iload_n 1, 1) := by decide +kernel
theorem d_Model_trouble_1 : decode b_Model_trouble 1 = .ok (.ifCond .lt 40, 3) := by decide +kernel
theorem d_Model_trouble_4 : decode b_Model_trouble 4 = .ok (.iload_n 1, 1) := by decide +kernel
theorem d_Model_trouble_5 : decode b_Model_trouble 5 = .ok (.aload_n 0, 1) := by decide +kernel
theorem d_Model_trouble_6 : decode b_Model_trouble 6 = .ok (.getfield 103, 3) := by decide +kernel
theorem d_Model_trouble_9 : decode b_Model_trouble 9 = .ok (.if_icmp .ge 32, 3) := by decide +kernel
theorem d_Model_trouble_12 : decode b_Model_trouble 12 = .ok (.iload_n 1, 1) := by decide +kernel
theorem d_Model_trouble_13 : decode b_Model_trouble 13 = .ok (.sipush 150, 3) := by decide +kernel
theorem d_Model_trouble_16 : decode b_Model_trouble 16 = .ok (.if_icmp .ge 25, 3) := by decide +kernel
theorem d_Model_trouble_19 : decode b_Model_trouble 19 = .ok (.aload_n 0, 1) := by decide +kernel
theorem d_Model_trouble_20 : decode b_Model_trouble 20 = .ok (.getfield 69, 3) := by decide +kernel
theorem d_Model_trouble_23 : decode b_Model_trouble 23 = .ok (.iload_n 1, 1) := by decide +kernel
theorem d_Model_trouble_24 : decode b_Model_trouble 24 = .ok (.bipush 8, 2) := by decide +kernel
theorem d_Model_trouble_26 : decode b_Model_trouble 26 = .ok (.imul, 1) := by decide +kernel
theorem d_Model_trouble_27 : decode b_Model_trouble 27 = .ok (.iaload, 1) := by decide +kernel
theorem d_Model_trouble_28 : decode b_Model_trouble 28 = .ok (.iconst 2, 1) := by decide +kernel
theorem d_Model_trouble_29 : decode b_Model_trouble 29 = .ok (.if_icmp .ne 12, 3) := by decide +kernel
theorem d_Model_trouble_32 : decode b_Model_trouble 32 = .ok (.iload_n 2, 1) := by decide +kernel
theorem d_Model_trouble_33 : decode b_Model_trouble 33 = .ok (.ifCond .lt 8, 3) := by decide +kernel
theorem d_Model_trouble_36 : decode b_Model_trouble 36 = .ok (.iload_n 2, 1) := by decide +kernel
theorem d_Model_trouble_37 : decode b_Model_trouble 37 = .ok (.iconst 3, 1) := by decide +kernel
theorem d_Model_trouble_38 : decode b_Model_trouble 38 = .ok (.if_icmp .le 7, 3) := by decide +kernel
theorem d_Model_trouble_41 : decode b_Model_trouble 41 = .ok (.sipush (-1000), 3) := by decide +kernel
theorem d_Model_trouble_44 : decode b_Model_trouble 44 = .ok (.ireturn, 1) := by decide +kernel
theorem d_Model_trouble_45 : decode b_Model_trouble 45 = .ok (.aload_n 0, 1) := by decide +kernel
theorem d_Model_trouble_46 : decode b_Model_trouble 46 = .ok (.getfield 72, 3) := by decide +kernel
theorem d_Model_trouble_49 : decode b_Model_trouble 49 = .ok (.iload_n 1, 1) := by decide +kernel
theorem d_Model_trouble_50 : decode b_Model_trouble 50 = .ok (.iconst 4, 1) := by decide +kernel
theorem d_Model_trouble_51 : decode b_Model_trouble 51 = .ok (.imul, 1) := by decide +kernel
theorem d_Model_trouble_52 : decode b_Model_trouble 52 = .ok (.iload_n 2, 1) := by decide +kernel
theorem d_Model_trouble_53 : decode b_Model_trouble 53 = .ok (.iadd, 1) := by decide +kernel
theorem d_Model_trouble_54 : decode b_Model_trouble 54 = .ok (.iaload, 1) := by decide +kernel
theorem d_Model_trouble_55 : decode b_Model_trouble 55 = .ok (.ireturn, 1) := by decide +kernel
theorem d_Model_count_0 : decode b_Model_count 0 = .ok (.iload_n 1, 1) := by decide +kernel
theorem d_Model_count_1 : decode b_Model_count 1 = .ok (.ifCond .lt 9, 3) := by decide +kernel
theorem d_Model_count_4 : decode b_Model_count 4 = .ok (.iload_n 1, 1) := by decide +kernel
theorem d_Model_count_5 : decode b_Model_count 5 = .ok (.bipush 10, 2) := by decide +kernel
theorem d_Model_count_7 : decode b_Model_count 7 = .ok (.if_icmp .le 7, 3) := by decide +kernel
theorem d_Model_count_10 : decode b_Model_count 10 = .ok (.sipush (-1000), 3) := by decide +kernel
theorem d_Model_count_13 : decode b_Model_count 13 = .ok (.ireturn, 1) := by decide +kernel
theorem d_Model_count_14 : decode b_Model_count 14 = .ok (.iload_n 1, 1) := by decide +kernel
theorem d_Model_count_15 : decode b_Model_count 15 = .ok (.iconst 3, 1) := by decide +kernel
theorem d_Model_count_16 : decode b_Model_count 16 = .ok (.if_icmp .ge 31, 3) := by decide +kernel
theorem d_Model_count_19 : decode b_Model_count 19 = .ok (.iload_n 1, 1) := by decide +kernel
theorem d_Model_count_20 : decode b_Model_count 20 = .ok (.ifCond .ne 10, 3) := by decide +kernel
theorem d_Model_count_23 : decode b_Model_count 23 = .ok (.aload_n 0, 1) := by decide +kernel
theorem d_Model_count_24 : decode b_Model_count 24 = .ok (.getfield 47, 3) := by decide +kernel
theorem d_Model_count_27 : decode b_Model_count 27 = .ok (.goto 19, 3) := by decide +kernel
theorem d_Model_count_30 : decode b_Model_count 30 = .ok (.iload_n 1, 1) := by decide +kernel
theorem d_Model_count_31 : decode b_Model_count 31 = .ok (.iconst 1, 1) := by decide +kernel
theorem d_Model_count_32 : decode b_Model_count 32 = .ok (.if_icmp .ne 10, 3) := by decide +kernel
theorem d_Model_count_35 : decode b_Model_count 35 = .ok (.aload_n 0, 1) := by decide +kernel
theorem d_Model_count_36 : decode b_Model_count 36 = .ok (.getfield 103, 3) := by decide +kernel
theorem d_Model_count_39 : decode b_Model_count 39 = .ok (.goto 7, 3) := by decide +kernel
theorem d_Model_count_42 : decode b_Model_count 42 = .ok (.aload_n 0, 1) := by decide +kernel
theorem d_Model_count_43 : decode b_Model_count 43 = .ok (.getfield 123, 3) := by decide +kernel
theorem d_Model_count_46 : decode b_Model_count 46 = .ok (.ireturn, 1) := by decide +kernel
theorem d_Model_count_47 : decode b_Model_count 47 = .ok (.iload_n 1, 1) := by decide +kernel
theorem d_Model_count_48 : decode b_Model_count 48 = .ok (.bipush 6, 2) := by decide +kernel
theorem d_Model_count_50 : decode b_Model_count 50 = .ok (.if_icmp .ge 32, 3) := by decide +kernel
theorem d_Model_count_53 : decode b_Model_count 53 = .ok (.iload_n 1, 1) := by decide +kernel
theorem d_Model_count_54 : decode b_Model_count 54 = .ok (.iconst 3, 1) := by decide +kernel
theorem d_Model_count_55 : decode b_Model_count 55 = .ok (.if_icmp .ne 10, 3) := by decide +kernel
theorem d_Model_count_58 : decode b_Model_count 58 = .ok (.aload_n 0, 1) := by decide +kernel
theorem d_Model_count_59 : decode b_Model_count 59 = .ok (.getfield 126, 3) := by decide +kernel
theorem d_Model_count_62 : decode b_Model_count 62 = .ok (.goto 19, 3) := by decide +kernel
theorem d_Model_count_65 : decode b_Model_count 65 = .ok (.iload_n 1, 1) := by decide +kernel
theorem d_Model_count_66 : decode b_Model_count 66 = .ok (.iconst 4, 1) := by decide +kernel
theorem d_Model_count_67 : decode b_Model_count 67 = .ok (.if_icmp .ne 10, 3) := by decide +kernel
theorem d_Model_count_70 : decode b_Model_count 70 = .ok (.aload_n 0, 1) := by decide +kernel
theorem d_Model_count_71 : decode b_Model_count 71 = .ok (.getfield 129, 3) := by decide +kernel
theorem d_Model_count_74 : decode b_Model_count 74 = .ok (.goto 7, 3) := by decide +kernel
theorem d_Model_count_77 : decode b_Model_count 77 = .ok (.aload_n 0, 1) := by decide +kernel
theorem d_Model_count_78 : decode b_Model_count 78 = .ok (.getfield 106, 3) := by decide +kernel
theorem d_Model_count_81 : decode b_Model_count 81 = .ok (.ireturn, 1) := by decide +kernel
theorem d_Model_count_82 : decode b_Model_count 82 = .ok (.iload_n 1, 1) := by decide +kernel
theorem d_Model_count_83 : decode b_Model_count 83 = .ok (.bipush 8, 2) := by decide +kernel
theorem d_Model_count_85 : decode b_Model_count 85 = .ok (.if_icmp .ge 21, 3) := by decide +kernel
theorem d_Model_count_88 : decode b_Model_count 88 = .ok (.iload_n 1, 1) := by decide +kernel
theorem d_Model_count_89 : decode b_Model_count 89 = .ok (.bipush 6, 2) := by decide +kernel
theorem d_Model_count_91 : decode b_Model_count 91 = .ok (.if_icmp .ne 10, 3) := by decide +kernel
theorem d_Model_count_94 : decode b_Model_count 94 = .ok (.aload_n 0, 1) := by decide +kernel
theorem d_Model_count_95 : decode b_Model_count 95 = .ok (.getfield 120, 3) := by decide +kernel
theorem d_Model_count_98 : decode b_Model_count 98 = .ok (.goto 7, 3) := by decide +kernel
theorem d_Model_count_101 : decode b_Model_count 101 = .ok (.aload_n 0, 1) := by decide +kernel
theorem d_Model_count_102 : decode b_Model_count 102 = .ok (.getfield 138, 3) := by decide +kernel
theorem d_Model_count_105 : decode b_Model_count 105 = .ok (.ireturn, 1) := by decide +kernel
theorem d_Model_count_106 : decode b_Model_count 106 = .ok (.iload_n 1, 1) := by decide +kernel
theorem d_Model_count_107 : decode b_Model_count 107 = .ok (.bipush 8, 2) := by decide +kernel
theorem d_Model_count_109 : decode b_Model_count 109 = .ok (.if_icmp .ne 10, 3) := by decide +kernel
theorem d_Model_count_112 : decode b_Model_count 112 = .ok (.aload_n 0, 1) := by decide +kernel
theorem d_Model_count_113 : decode b_Model_count 113 = .ok (.getfield 96, 3) := by decide +kernel
theorem d_Model_count_116 : decode b_Model_count 116 = .ok (.goto 20, 3) := by decide +kernel
theorem d_Model_count_119 : decode b_Model_count 119 = .ok (.iload_n 1, 1) := by decide +kernel
theorem d_Model_count_120 : decode b_Model_count 120 = .ok (.bipush 9, 2) := by decide +kernel
theorem d_Model_count_122 : decode b_Model_count 122 = .ok (.if_icmp .ne 10, 3) := by decide +kernel
theorem d_Model_count_125 : decode b_Model_count 125 = .ok (.aload_n 0, 1) := by decide +kernel
theorem d_Model_count_126 : decode b_Model_count 126 = .ok (.getfield 93, 3) := by decide +kernel
theorem d_Model_count_129 : decode b_Model_count 129 = .ok (.goto 7, 3) := by decide +kernel
theorem d_Model_count_132 : decode b_Model_count 132 = .ok (.aload_n 0, 1) := by decide +kernel
theorem d_Model_count_133 : decode b_Model_count 133 = .ok (.getfield 90, 3) := by decide +kernel
theorem d_Model_count_136 : decode b_Model_count 136 = .ok (.ireturn, 1) := by decide +kernel
theorem d_Law_law_0 : decode code 0 = .ok (.new 7, 3) := by decide +kernel
theorem d_Law_law_3 : decode code 3 = .ok (.dup, 1) := by decide +kernel
theorem d_Law_law_4 : decode code 4 = .ok (.invokespecial 9, 3) := by decide +kernel
theorem d_Law_law_7 : decode code 7 = .ok (.astore_n 1, 1) := by decide +kernel
theorem d_Law_law_8 : decode code 8 = .ok (.new 10, 3) := by decide +kernel
theorem d_Law_law_11 : decode code 11 = .ok (.dup, 1) := by decide +kernel
theorem d_Law_law_12 : decode code 12 = .ok (.invokespecial 12, 3) := by decide +kernel
theorem d_Law_law_15 : decode code 15 = .ok (.astore_n 2, 1) := by decide +kernel
theorem d_Law_law_16 : decode code 16 = .ok (.iconst 0, 1) := by decide +kernel
theorem d_Law_law_17 : decode code 17 = .ok (.istore_n 3, 1) := by decide +kernel
theorem d_Law_law_18 : decode code 18 = .ok (.iload_n 3, 1) := by decide +kernel
theorem d_Law_law_19 : decode code 19 = .ok (.aload_n 0, 1) := by decide +kernel
theorem d_Law_law_20 : decode code 20 = .ok (.arraylength, 1) := by decide +kernel
theorem d_Law_law_21 : decode code 21 = .ok (.bipush 6, 2) := by decide +kernel
theorem d_Law_law_23 : decode code 23 = .ok (.isub, 1) := by decide +kernel
theorem d_Law_law_24 : decode code 24 = .ok (.if_icmp .gt 465, 3) := by decide +kernel
theorem d_Law_law_27 : decode code 27 = .ok (.aload_n 0, 1) := by decide +kernel
theorem d_Law_law_28 : decode code 28 = .ok (.iload_n 3, 1) := by decide +kernel
theorem d_Law_law_29 : decode code 29 = .ok (.iaload, 1) := by decide +kernel
theorem d_Law_law_30 : decode code 30 = .ok (.bipush 15, 2) := by decide +kernel
theorem d_Law_law_32 : decode code 32 = .ok (.iand, 1) := by decide +kernel
theorem d_Law_law_33 : decode code 33 = .ok (.tableswitch 450 0 8 #[51, 110, 163, 222, 285, 318, 361, 394, 427], 51) := by decide +kernel
theorem d_Law_law_84 : decode code 84 = .ok (.aload_n 1, 1) := by decide +kernel
theorem d_Law_law_85 : decode code 85 = .ok (.aload_n 0, 1) := by decide +kernel
theorem d_Law_law_86 : decode code 86 = .ok (.iload_n 3, 1) := by decide +kernel
theorem d_Law_law_87 : decode code 87 = .ok (.iconst 1, 1) := by decide +kernel
theorem d_Law_law_88 : decode code 88 = .ok (.iadd, 1) := by decide +kernel
theorem d_Law_law_89 : decode code 89 = .ok (.iaload, 1) := by decide +kernel
theorem d_Law_law_90 : decode code 90 = .ok (.aload_n 0, 1) := by decide +kernel
theorem d_Law_law_91 : decode code 91 = .ok (.iload_n 3, 1) := by decide +kernel
theorem d_Law_law_92 : decode code 92 = .ok (.iconst 2, 1) := by decide +kernel
theorem d_Law_law_93 : decode code 93 = .ok (.iadd, 1) := by decide +kernel
theorem d_Law_law_94 : decode code 94 = .ok (.iaload, 1) := by decide +kernel
theorem d_Law_law_95 : decode code 95 = .ok (.aload_n 0, 1) := by decide +kernel
theorem d_Law_law_96 : decode code 96 = .ok (.iload_n 3, 1) := by decide +kernel
theorem d_Law_law_97 : decode code 97 = .ok (.iconst 3, 1) := by decide +kernel
theorem d_Law_law_98 : decode code 98 = .ok (.iadd, 1) := by decide +kernel
theorem d_Law_law_99 : decode code 99 = .ok (.iaload, 1) := by decide +kernel
theorem d_Law_law_100 : decode code 100 = .ok (.ifCond .eq 7, 3) := by decide +kernel
theorem d_Law_law_103 : decode code 103 = .ok (.iconst 1, 1) := by decide +kernel
theorem d_Law_law_104 : decode code 104 = .ok (.goto 4, 3) := by decide +kernel
theorem d_Law_law_107 : decode code 107 = .ok (.iconst 0, 1) := by decide +kernel
theorem d_Law_law_108 : decode code 108 = .ok (.invokevirtual 13, 3) := by decide +kernel
theorem d_Law_law_111 : decode code 111 = .ok (.aload_n 2, 1) := by decide +kernel
theorem d_Law_law_112 : decode code 112 = .ok (.aload_n 0, 1) := by decide +kernel
theorem d_Law_law_113 : decode code 113 = .ok (.iload_n 3, 1) := by decide +kernel
theorem d_Law_law_114 : decode code 114 = .ok (.iconst 1, 1) := by decide +kernel
theorem d_Law_law_115 : decode code 115 = .ok (.iadd, 1) := by decide +kernel
theorem d_Law_law_116 : decode code 116 = .ok (.iaload, 1) := by decide +kernel
theorem d_Law_law_117 : decode code 117 = .ok (.aload_n 0, 1) := by decide +kernel
theorem d_Law_law_118 : decode code 118 = .ok (.iload_n 3, 1) := by decide +kernel
theorem d_Law_law_119 : decode code 119 = .ok (.iconst 2, 1) := by decide +kernel
theorem d_Law_law_120 : decode code 120 = .ok (.iadd, 1) := by decide +kernel
theorem d_Law_law_121 : decode code 121 = .ok (.iaload, 1) := by decide +kernel
theorem d_Law_law_122 : decode code 122 = .ok (.aload_n 0, 1) := by decide +kernel
theorem d_Law_law_123 : decode code 123 = .ok (.iload_n 3, 1) := by decide +kernel
theorem d_Law_law_124 : decode code 124 = .ok (.iconst 3, 1) := by decide +kernel
theorem d_Law_law_125 : decode code 125 = .ok (.iadd, 1) := by decide +kernel
theorem d_Law_law_126 : decode code 126 = .ok (.iaload, 1) := by decide +kernel
theorem d_Law_law_127 : decode code 127 = .ok (.ifCond .eq 7, 3) := by decide +kernel
theorem d_Law_law_130 : decode code 130 = .ok (.iconst 1, 1) := by decide +kernel
theorem d_Law_law_131 : decode code 131 = .ok (.goto 4, 3) := by decide +kernel
theorem d_Law_law_134 : decode code 134 = .ok (.iconst 0, 1) := by decide +kernel
theorem d_Law_law_135 : decode code 135 = .ok (.invokevirtual 17, 3) := by decide +kernel
theorem d_Law_law_138 : decode code 138 = .ok (.if_icmp .eq 345, 3) := by decide +kernel
theorem d_Law_law_141 : decode code 141 = .ok (.iconst 0, 1) := by decide +kernel
theorem d_Law_law_142 : decode code 142 = .ok (.ireturn, 1) := by decide +kernel
theorem d_Law_law_143 : decode code 143 = .ok (.aload_n 1, 1) := by decide +kernel
theorem d_Law_law_144 : decode code 144 = .ok (.aload_n 0, 1) := by decide +kernel
theorem d_Law_law_145 : decode code 145 = .ok (.iload_n 3, 1) := by decide +kernel
theorem d_Law_law_146 : decode code 146 = .ok (.iconst 1, 1) := by decide +kernel
theorem d_Law_law_147 : decode code 147 = .ok (.iadd, 1) := by decide +kernel
theorem d_Law_law_148 : decode code 148 = .ok (.iaload, 1) := by decide +kernel
theorem d_Law_law_149 : decode code 149 = .ok (.aload_n 0, 1) := by decide +kernel
theorem d_Law_law_150 : decode code 150 = .ok (.iload_n 3, 1) := by decide +kernel
theorem d_Law_law_151 : decode code 151 = .ok (.iconst 2, 1) := by decide +kernel
theorem d_Law_law_152 : decode code 152 = .ok (.iadd, 1) := by decide +kernel
theorem d_Law_law_153 : decode code 153 = .ok (.iaload, 1) := by decide +kernel
theorem d_Law_law_154 : decode code 154 = .ok (.aload_n 0, 1) := by decide +kernel
theorem d_Law_law_155 : decode code 155 = .ok (.iload_n 3, 1) := by decide +kernel
theorem d_Law_law_156 : decode code 156 = .ok (.iconst 3, 1) := by decide +kernel
theorem d_Law_law_157 : decode code 157 = .ok (.iadd, 1) := by decide +kernel
theorem d_Law_law_158 : decode code 158 = .ok (.iaload, 1) := by decide +kernel
theorem d_Law_law_159 : decode code 159 = .ok (.aload_n 0, 1) := by decide +kernel
theorem d_Law_law_160 : decode code 160 = .ok (.iload_n 3, 1) := by decide +kernel
theorem d_Law_law_161 : decode code 161 = .ok (.iconst 4, 1) := by decide +kernel
theorem d_Law_law_162 : decode code 162 = .ok (.iadd, 1) := by decide +kernel
theorem d_Law_law_163 : decode code 163 = .ok (.iaload, 1) := by decide +kernel
theorem d_Law_law_164 : decode code 164 = .ok (.invokevirtual 18, 3) := by decide +kernel
theorem d_Law_law_167 : decode code 167 = .ok (.aload_n 2, 1) := by decide +kernel
theorem d_Law_law_168 : decode code 168 = .ok (.aload_n 0, 1) := by decide +kernel
theorem d_Law_law_169 : decode code 169 = .ok (.iload_n 3, 1) := by decide +kernel
theorem d_Law_law_170 : decode code 170 = .ok (.iconst 1, 1) := by decide +kernel
theorem d_Law_law_171 : decode code 171 = .ok (.iadd, 1) := by decide +kernel
theorem d_Law_law_172 : decode code 172 = .ok (.iaload, 1) := by decide +kernel
theorem d_Law_law_173 : decode code 173 = .ok (.aload_n 0, 1) := by decide +kernel
theorem d_Law_law_174 : decode code 174 = .ok (.iload_n 3, 1) := by decide +kernel
theorem d_Law_law_175 : decode code 175 = .ok (.iconst 2, 1) := by decide +kernel
theorem d_Law_law_176 : decode code 176 = .ok (.iadd, 1) := by decide +kernel
theorem d_Law_law_177 : decode code 177 = .ok (.iaload, 1) := by decide +kernel
theorem d_Law_law_178 : decode code 178 = .ok (.aload_n 0, 1) := by decide +kernel
theorem d_Law_law_179 : decode code 179 = .ok (.iload_n 3, 1) := by decide +kernel
theorem d_Law_law_180 : decode code 180 = .ok (.iconst 3, 1) := by decide +kernel
theorem d_Law_law_181 : decode code 181 = .ok (.iadd, 1) := by decide +kernel
theorem d_Law_law_182 : decode code 182 = .ok (.iaload, 1) := by decide +kernel
theorem d_Law_law_183 : decode code 183 = .ok (.aload_n 0, 1) := by decide +kernel
theorem d_Law_law_184 : decode code 184 = .ok (.iload_n 3, 1) := by decide +kernel
theorem d_Law_law_185 : decode code 185 = .ok (.iconst 4, 1) := by decide +kernel
theorem d_Law_law_186 : decode code 186 = .ok (.iadd, 1) := by decide +kernel
theorem d_Law_law_187 : decode code 187 = .ok (.iaload, 1) := by decide +kernel
theorem d_Law_law_188 : decode code 188 = .ok (.invokevirtual 22, 3) := by decide +kernel
theorem d_Law_law_191 : decode code 191 = .ok (.if_icmp .eq 292, 3) := by decide +kernel
theorem d_Law_law_194 : decode code 194 = .ok (.iconst 0, 1) := by decide +kernel
theorem d_Law_law_195 : decode code 195 = .ok (.ireturn, 1) := by decide +kernel
theorem d_Law_law_196 : decode code 196 = .ok (.aload_n 1, 1) := by decide +kernel
theorem d_Law_law_197 : decode code 197 = .ok (.aload_n 0, 1) := by decide +kernel
theorem d_Law_law_198 : decode code 198 = .ok (.iload_n 3, 1) := by decide +kernel
theorem d_Law_law_199 : decode code 199 = .ok (.iconst 1, 1) := by decide +kernel
theorem d_Law_law_200 : decode code 200 = .ok (.iadd, 1) := by decide +kernel
theorem d_Law_law_201 : decode code 201 = .ok (.iaload, 1) := by decide +kernel
theorem d_Law_law_202 : decode code 202 = .ok (.aload_n 0, 1) := by decide +kernel
theorem d_Law_law_203 : decode code 203 = .ok (.iload_n 3, 1) := by decide +kernel
theorem d_Law_law_204 : decode code 204 = .ok (.iconst 2, 1) := by decide +kernel
theorem d_Law_law_205 : decode code 205 = .ok (.iadd, 1) := by decide +kernel
theorem d_Law_law_206 : decode code 206 = .ok (.iaload, 1) := by decide +kernel
theorem d_Law_law_207 : decode code 207 = .ok (.aload_n 0, 1) := by decide +kernel
theorem d_Law_law_208 : decode code 208 = .ok (.iload_n 3, 1) := by decide +kernel
theorem d_Law_law_209 : decode code 209 = .ok (.iconst 3, 1) := by decide +kernel
theorem d_Law_law_210 : decode code 210 = .ok (.iadd, 1) := by decide +kernel
theorem d_Law_law_211 : decode code 211 = .ok (.iaload, 1) := by decide +kernel
theorem d_Law_law_212 : decode code 212 = .ok (.ifCond .eq 7, 3) := by decide +kernel
theorem d_Law_law_215 : decode code 215 = .ok (.iconst 1, 1) := by decide +kernel
theorem d_Law_law_216 : decode code 216 = .ok (.goto 4, 3) := by decide +kernel
theorem d_Law_law_219 : decode code 219 = .ok (.iconst 0, 1) := by decide +kernel
theorem d_Law_law_220 : decode code 220 = .ok (.invokevirtual 23, 3) := by decide +kernel
theorem d_Law_law_223 : decode code 223 = .ok (.aload_n 2, 1) := by decide +kernel
theorem d_Law_law_224 : decode code 224 = .ok (.aload_n 0, 1) := by decide +kernel
theorem d_Law_law_225 : decode code 225 = .ok (.iload_n 3, 1) := by decide +kernel
theorem d_Law_law_226 : decode code 226 = .ok (.iconst 1, 1) := by decide +kernel
theorem d_Law_law_227 : decode code 227 = .ok (.iadd, 1) := by decide +kernel
theorem d_Law_law_228 : decode code 228 = .ok (.iaload, 1) := by decide +kernel
theorem d_Law_law_229 : decode code 229 = .ok (.aload_n 0, 1) := by decide +kernel
theorem d_Law_law_230 : decode code 230 = .ok (.iload_n 3, 1) := by decide +kernel
theorem d_Law_law_231 : decode code 231 = .ok (.iconst 2, 1) := by decide +kernel
theorem d_Law_law_232 : decode code 232 = .ok (.iadd, 1) := by decide +kernel
theorem d_Law_law_233 : decode code 233 = .ok (.iaload, 1) := by decide +kernel
theorem d_Law_law_234 : decode code 234 = .ok (.aload_n 0, 1) := by decide +kernel
theorem d_Law_law_235 : decode code 235 = .ok (.iload_n 3, 1) := by decide +kernel
theorem d_Law_law_236 : decode code 236 = .ok (.iconst 3, 1) := by decide +kernel
theorem d_Law_law_237 : decode code 237 = .ok (.iadd, 1) := by decide +kernel
theorem d_Law_law_238 : decode code 238 = .ok (.iaload, 1) := by decide +kernel
theorem d_Law_law_239 : decode code 239 = .ok (.ifCond .eq 7, 3) := by decide +kernel
theorem d_Law_law_242 : decode code 242 = .ok (.iconst 1, 1) := by decide +kernel
theorem d_Law_law_243 : decode code 243 = .ok (.goto 4, 3) := by decide +kernel
theorem d_Law_law_246 : decode code 246 = .ok (.iconst 0, 1) := by decide +kernel
theorem d_Law_law_247 : decode code 247 = .ok (.invokevirtual 26, 3) := by decide +kernel
theorem d_Law_law_250 : decode code 250 = .ok (.if_icmp .eq 233, 3) := by decide +kernel
theorem d_Law_law_253 : decode code 253 = .ok (.iconst 0, 1) := by decide +kernel
theorem d_Law_law_254 : decode code 254 = .ok (.ireturn, 1) := by decide +kernel
theorem d_Law_law_255 : decode code 255 = .ok (.aload_n 1, 1) := by decide +kernel
theorem d_Law_law_256 : decode code 256 = .ok (.aload_n 0, 1) := by decide +kernel
theorem d_Law_law_257 : decode code 257 = .ok (.iload_n 3, 1) := by decide +kernel
theorem d_Law_law_258 : decode code 258 = .ok (.iconst 1, 1) := by decide +kernel
theorem d_Law_law_259 : decode code 259 = .ok (.iadd, 1) := by decide +kernel
theorem d_Law_law_260 : decode code 260 = .ok (.iaload, 1) := by decide +kernel
theorem d_Law_law_261 : decode code 261 = .ok (.aload_n 0, 1) := by decide +kernel
theorem d_Law_law_262 : decode code 262 = .ok (.iload_n 3, 1) := by decide +kernel
theorem d_Law_law_263 : decode code 263 = .ok (.iconst 2, 1) := by decide +kernel
theorem d_Law_law_264 : decode code 264 = .ok (.iadd, 1) := by decide +kernel
theorem d_Law_law_265 : decode code 265 = .ok (.iaload, 1) := by decide +kernel
theorem d_Law_law_266 : decode code 266 = .ok (.aload_n 0, 1) := by decide +kernel
theorem d_Law_law_267 : decode code 267 = .ok (.iload_n 3, 1) := by decide +kernel
theorem d_Law_law_268 : decode code 268 = .ok (.iconst 3, 1) := by decide +kernel
theorem d_Law_law_269 : decode code 269 = .ok (.iadd, 1) := by decide +kernel
theorem d_Law_law_270 : decode code 270 = .ok (.iaload, 1) := by decide +kernel
theorem d_Law_law_271 : decode code 271 = .ok (.aload_n 0, 1) := by decide +kernel
theorem d_Law_law_272 : decode code 272 = .ok (.iload_n 3, 1) := by decide +kernel
theorem d_Law_law_273 : decode code 273 = .ok (.iconst 4, 1) := by decide +kernel
theorem d_Law_law_274 : decode code 274 = .ok (.iadd, 1) := by decide +kernel
theorem d_Law_law_275 : decode code 275 = .ok (.iaload, 1) := by decide +kernel
theorem d_Law_law_276 : decode code 276 = .ok (.aload_n 0, 1) := by decide +kernel
theorem d_Law_law_277 : decode code 277 = .ok (.iload_n 3, 1) := by decide +kernel
theorem d_Law_law_278 : decode code 278 = .ok (.iconst 5, 1) := by decide +kernel
theorem d_Law_law_279 : decode code 279 = .ok (.iadd, 1) := by decide +kernel
theorem d_Law_law_280 : decode code 280 = .ok (.iaload, 1) := by decide +kernel
theorem d_Law_law_281 : decode code 281 = .ok (.invokevirtual 27, 3) := by decide +kernel
theorem d_Law_law_284 : decode code 284 = .ok (.aload_n 2, 1) := by decide +kernel
theorem d_Law_law_285 : decode code 285 = .ok (.aload_n 0, 1) := by decide +kernel
theorem d_Law_law_286 : decode code 286 = .ok (.iload_n 3, 1) := by decide +kernel
theorem d_Law_law_287 : decode code 287 = .ok (.iconst 1, 1) := by decide +kernel
theorem d_Law_law_288 : decode code 288 = .ok (.iadd, 1) := by decide +kernel
theorem d_Law_law_289 : decode code 289 = .ok (.iaload, 1) := by decide +kernel
theorem d_Law_law_290 : decode code 290 = .ok (.aload_n 0, 1) := by decide +kernel
theorem d_Law_law_291 : decode code 291 = .ok (.iload_n 3, 1) := by decide +kernel
theorem d_Law_law_292 : decode code 292 = .ok (.iconst 2, 1) := by decide +kernel
theorem d_Law_law_293 : decode code 293 = .ok (.iadd, 1) := by decide +kernel
theorem d_Law_law_294 : decode code 294 = .ok (.iaload, 1) := by decide +kernel
theorem d_Law_law_295 : decode code 295 = .ok (.aload_n 0, 1) := by decide +kernel
theorem d_Law_law_296 : decode code 296 = .ok (.iload_n 3, 1) := by decide +kernel
theorem d_Law_law_297 : decode code 297 = .ok (.iconst 3, 1) := by decide +kernel
theorem d_Law_law_298 : decode code 298 = .ok (.iadd, 1) := by decide +kernel
theorem d_Law_law_299 : decode code 299 = .ok (.iaload, 1) := by decide +kernel
theorem d_Law_law_300 : decode code 300 = .ok (.aload_n 0, 1) := by decide +kernel
theorem d_Law_law_301 : decode code 301 = .ok (.iload_n 3, 1) := by decide +kernel
theorem d_Law_law_302 : decode code 302 = .ok (.iconst 4, 1) := by decide +kernel
theorem d_Law_law_303 : decode code 303 = .ok (.iadd, 1) := by decide +kernel
theorem d_Law_law_304 : decode code 304 = .ok (.iaload, 1) := by decide +kernel
theorem d_Law_law_305 : decode code 305 = .ok (.aload_n 0, 1) := by decide +kernel
theorem d_Law_law_306 : decode code 306 = .ok (.iload_n 3, 1) := by decide +kernel
theorem d_Law_law_307 : decode code 307 = .ok (.iconst 5, 1) := by decide +kernel
theorem d_Law_law_308 : decode code 308 = .ok (.iadd, 1) := by decide +kernel
theorem d_Law_law_309 : decode code 309 = .ok (.iaload, 1) := by decide +kernel
theorem d_Law_law_310 : decode code 310 = .ok (.invokevirtual 31, 3) := by decide +kernel
theorem d_Law_law_313 : decode code 313 = .ok (.if_icmp .eq 170, 3) := by decide +kernel
theorem d_Law_law_316 : decode code 316 = .ok (.iconst 0, 1) := by decide +kernel
theorem d_Law_law_317 : decode code 317 = .ok (.ireturn, 1) := by decide +kernel
theorem d_Law_law_318 : decode code 318 = .ok (.aload_n 1, 1) := by decide +kernel
theorem d_Law_law_319 : decode code 319 = .ok (.aload_n 0, 1) := by decide +kernel
theorem d_Law_law_320 : decode code 320 = .ok (.iload_n 3, 1) := by decide +kernel
theorem d_Law_law_321 : decode code 321 = .ok (.iconst 1, 1) := by decide +kernel
theorem d_Law_law_322 : decode code 322 = .ok (.iadd, 1) := by decide +kernel
theorem d_Law_law_323 : decode code 323 = .ok (.iaload, 1) := by decide +kernel
theorem d_Law_law_324 : decode code 324 = .ok (.aload_n 0, 1) := by decide +kernel
theorem d_Law_law_325 : decode code 325 = .ok (.iload_n 3, 1) := by decide +kernel
theorem d_Law_law_326 : decode code 326 = .ok (.iconst 2, 1) := by decide +kernel
theorem d_Law_law_327 : decode code 327 = .ok (.iadd, 1) := by decide +kernel
theorem d_Law_law_328 : decode code 328 = .ok (.iaload, 1) := by decide +kernel
theorem d_Law_law_329 : decode code 329 = .ok (.invokevirtual 32, 3) := by decide +kernel
theorem d_Law_law_332 : decode code 332 = .ok (.aload_n 2, 1) := by decide +kernel
theorem d_Law_law_333 : decode code 333 = .ok (.aload_n 0, 1) := by decide +kernel
theorem d_Law_law_334 : decode code 334 = .ok (.iload_n 3, 1) := by decide +kernel
theorem d_Law_law_335 : decode code 335 = .ok (.iconst 1, 1) := by decide +kernel
theorem d_Law_law_336 : decode code 336 = .ok (.iadd, 1) := by decide +kernel
theorem d_Law_law_337 : decode code 337 = .ok (.iaload, 1) := by decide +kernel
theorem d_Law_law_338 : decode code 338 = .ok (.aload_n 0, 1) := by decide +kernel
theorem d_Law_law_339 : decode code 339 = .ok (.iload_n 3, 1) := by decide +kernel
theorem d_Law_law_340 : decode code 340 = .ok (.iconst 2, 1) := by decide +kernel
theorem d_Law_law_341 : decode code 341 = .ok (.iadd, 1) := by decide +kernel
theorem d_Law_law_342 : decode code 342 = .ok (.iaload, 1) := by decide +kernel
theorem d_Law_law_343 : decode code 343 = .ok (.invokevirtual 36, 3) := by decide +kernel
theorem d_Law_law_346 : decode code 346 = .ok (.if_icmp .eq 137, 3) := by decide +kernel
theorem d_Law_law_349 : decode code 349 = .ok (.iconst 0, 1) := by decide +kernel
theorem d_Law_law_350 : decode code 350 = .ok (.ireturn, 1) := by decide +kernel
theorem d_Law_law_351 : decode code 351 = .ok (.aload_n 1, 1) := by decide +kernel
theorem d_Law_law_352 : decode code 352 = .ok (.aload_n 0, 1) := by decide +kernel
theorem d_Law_law_353 : decode code 353 = .ok (.iload_n 3, 1) := by decide +kernel
theorem d_Law_law_354 : decode code 354 = .ok (.iconst 1, 1) := by decide +kernel
theorem d_Law_law_355 : decode code 355 = .ok (.iadd, 1) := by decide +kernel
theorem d_Law_law_356 : decode code 356 = .ok (.iaload, 1) := by decide +kernel
theorem d_Law_law_357 : decode code 357 = .ok (.aload_n 0, 1) := by decide +kernel
theorem d_Law_law_358 : decode code 358 = .ok (.iload_n 3, 1) := by decide +kernel
theorem d_Law_law_359 : decode code 359 = .ok (.iconst 2, 1) := by decide +kernel
theorem d_Law_law_360 : decode code 360 = .ok (.iadd, 1) := by decide +kernel
theorem d_Law_law_361 : decode code 361 = .ok (.iaload, 1) := by decide +kernel
theorem d_Law_law_362 : decode code 362 = .ok (.aload_n 0, 1) := by decide +kernel
theorem d_Law_law_363 : decode code 363 = .ok (.iload_n 3, 1) := by decide +kernel
theorem d_Law_law_364 : decode code 364 = .ok (.iconst 3, 1) := by decide +kernel
theorem d_Law_law_365 : decode code 365 = .ok (.iadd, 1) := by decide +kernel
theorem d_Law_law_366 : decode code 366 = .ok (.iaload, 1) := by decide +kernel
theorem d_Law_law_367 : decode code 367 = .ok (.invokevirtual 37, 3) := by decide +kernel
theorem d_Law_law_370 : decode code 370 = .ok (.aload_n 2, 1) := by decide +kernel
theorem d_Law_law_371 : decode code 371 = .ok (.aload_n 0, 1) := by decide +kernel
theorem d_Law_law_372 : decode code 372 = .ok (.iload_n 3, 1) := by decide +kernel
theorem d_Law_law_373 : decode code 373 = .ok (.iconst 1, 1) := by decide +kernel
theorem d_Law_law_374 : decode code 374 = .ok (.iadd, 1) := by decide +kernel
theorem d_Law_law_375 : decode code 375 = .ok (.iaload, 1) := by decide +kernel
theorem d_Law_law_376 : decode code 376 = .ok (.aload_n 0, 1) := by decide +kernel
theorem d_Law_law_377 : decode code 377 = .ok (.iload_n 3, 1) := by decide +kernel
theorem d_Law_law_378 : decode code 378 = .ok (.iconst 2, 1) := by decide +kernel
theorem d_Law_law_379 : decode code 379 = .ok (.iadd, 1) := by decide +kernel
theorem d_Law_law_380 : decode code 380 = .ok (.iaload, 1) := by decide +kernel
theorem d_Law_law_381 : decode code 381 = .ok (.aload_n 0, 1) := by decide +kernel
theorem d_Law_law_382 : decode code 382 = .ok (.iload_n 3, 1) := by decide +kernel
theorem d_Law_law_383 : decode code 383 = .ok (.iconst 3, 1) := by decide +kernel
theorem d_Law_law_384 : decode code 384 = .ok (.iadd, 1) := by decide +kernel
theorem d_Law_law_385 : decode code 385 = .ok (.iaload, 1) := by decide +kernel
theorem d_Law_law_386 : decode code 386 = .ok (.invokevirtual 41, 3) := by decide +kernel
theorem d_Law_law_389 : decode code 389 = .ok (.if_icmp .eq 94, 3) := by decide +kernel
theorem d_Law_law_392 : decode code 392 = .ok (.iconst 0, 1) := by decide +kernel
theorem d_Law_law_393 : decode code 393 = .ok (.ireturn, 1) := by decide +kernel
theorem d_Law_law_394 : decode code 394 = .ok (.aload_n 1, 1) := by decide +kernel
theorem d_Law_law_395 : decode code 395 = .ok (.aload_n 0, 1) := by decide +kernel
theorem d_Law_law_396 : decode code 396 = .ok (.iload_n 3, 1) := by decide +kernel
theorem d_Law_law_397 : decode code 397 = .ok (.iconst 1, 1) := by decide +kernel
theorem d_Law_law_398 : decode code 398 = .ok (.iadd, 1) := by decide +kernel
theorem d_Law_law_399 : decode code 399 = .ok (.iaload, 1) := by decide +kernel
theorem d_Law_law_400 : decode code 400 = .ok (.aload_n 0, 1) := by decide +kernel
theorem d_Law_law_401 : decode code 401 = .ok (.iload_n 3, 1) := by decide +kernel
theorem d_Law_law_402 : decode code 402 = .ok (.iconst 2, 1) := by decide +kernel
theorem d_Law_law_403 : decode code 403 = .ok (.iadd, 1) := by decide +kernel
theorem d_Law_law_404 : decode code 404 = .ok (.iaload, 1) := by decide +kernel
theorem d_Law_law_405 : decode code 405 = .ok (.invokevirtual 42, 3) := by decide +kernel
theorem d_Law_law_408 : decode code 408 = .ok (.aload_n 2, 1) := by decide +kernel
theorem d_Law_law_409 : decode code 409 = .ok (.aload_n 0, 1) := by decide +kernel
theorem d_Law_law_410 : decode code 410 = .ok (.iload_n 3, 1) := by decide +kernel
theorem d_Law_law_411 : decode code 411 = .ok (.iconst 1, 1) := by decide +kernel
theorem d_Law_law_412 : decode code 412 = .ok (.iadd, 1) := by decide +kernel
theorem d_Law_law_413 : decode code 413 = .ok (.iaload, 1) := by decide +kernel
theorem d_Law_law_414 : decode code 414 = .ok (.aload_n 0, 1) := by decide +kernel
theorem d_Law_law_415 : decode code 415 = .ok (.iload_n 3, 1) := by decide +kernel
theorem d_Law_law_416 : decode code 416 = .ok (.iconst 2, 1) := by decide +kernel
theorem d_Law_law_417 : decode code 417 = .ok (.iadd, 1) := by decide +kernel
theorem d_Law_law_418 : decode code 418 = .ok (.iaload, 1) := by decide +kernel
theorem d_Law_law_419 : decode code 419 = .ok (.invokevirtual 45, 3) := by decide +kernel
theorem d_Law_law_422 : decode code 422 = .ok (.if_icmp .eq 61, 3) := by decide +kernel
theorem d_Law_law_425 : decode code 425 = .ok (.iconst 0, 1) := by decide +kernel
theorem d_Law_law_426 : decode code 426 = .ok (.ireturn, 1) := by decide +kernel
theorem d_Law_law_427 : decode code 427 = .ok (.aload_n 1, 1) := by decide +kernel
theorem d_Law_law_428 : decode code 428 = .ok (.aload_n 0, 1) := by decide +kernel
theorem d_Law_law_429 : decode code 429 = .ok (.iload_n 3, 1) := by decide +kernel
theorem d_Law_law_430 : decode code 430 = .ok (.iconst 1, 1) := by decide +kernel
theorem d_Law_law_431 : decode code 431 = .ok (.iadd, 1) := by decide +kernel
theorem d_Law_law_432 : decode code 432 = .ok (.iaload, 1) := by decide +kernel
theorem d_Law_law_433 : decode code 433 = .ok (.aload_n 0, 1) := by decide +kernel
theorem d_Law_law_434 : decode code 434 = .ok (.iload_n 3, 1) := by decide +kernel
theorem d_Law_law_435 : decode code 435 = .ok (.iconst 2, 1) := by decide +kernel
theorem d_Law_law_436 : decode code 436 = .ok (.iadd, 1) := by decide +kernel
theorem d_Law_law_437 : decode code 437 = .ok (.iaload, 1) := by decide +kernel
theorem d_Law_law_438 : decode code 438 = .ok (.invokevirtual 46, 3) := by decide +kernel
theorem d_Law_law_441 : decode code 441 = .ok (.aload_n 2, 1) := by decide +kernel
theorem d_Law_law_442 : decode code 442 = .ok (.aload_n 0, 1) := by decide +kernel
theorem d_Law_law_443 : decode code 443 = .ok (.iload_n 3, 1) := by decide +kernel
theorem d_Law_law_444 : decode code 444 = .ok (.iconst 1, 1) := by decide +kernel
theorem d_Law_law_445 : decode code 445 = .ok (.iadd, 1) := by decide +kernel
theorem d_Law_law_446 : decode code 446 = .ok (.iaload, 1) := by decide +kernel
theorem d_Law_law_447 : decode code 447 = .ok (.aload_n 0, 1) := by decide +kernel
theorem d_Law_law_448 : decode code 448 = .ok (.iload_n 3, 1) := by decide +kernel
theorem d_Law_law_449 : decode code 449 = .ok (.iconst 2, 1) := by decide +kernel
theorem d_Law_law_450 : decode code 450 = .ok (.iadd, 1) := by decide +kernel
theorem d_Law_law_451 : decode code 451 = .ok (.iaload, 1) := by decide +kernel
theorem d_Law_law_452 : decode code 452 = .ok (.invokevirtual 49, 3) := by decide +kernel
theorem d_Law_law_455 : decode code 455 = .ok (.if_icmp .eq 28, 3) := by decide +kernel
theorem d_Law_law_458 : decode code 458 = .ok (.iconst 0, 1) := by decide +kernel
theorem d_Law_law_459 : decode code 459 = .ok (.ireturn, 1) := by decide +kernel
theorem d_Law_law_460 : decode code 460 = .ok (.aload_n 1, 1) := by decide +kernel
theorem d_Law_law_461 : decode code 461 = .ok (.aload_n 0, 1) := by decide +kernel
theorem d_Law_law_462 : decode code 462 = .ok (.iload_n 3, 1) := by decide +kernel
theorem d_Law_law_463 : decode code 463 = .ok (.iconst 1, 1) := by decide +kernel
theorem d_Law_law_464 : decode code 464 = .ok (.iadd, 1) := by decide +kernel
theorem d_Law_law_465 : decode code 465 = .ok (.iaload, 1) := by decide +kernel
theorem d_Law_law_466 : decode code 466 = .ok (.invokevirtual 50, 3) := by decide +kernel
theorem d_Law_law_469 : decode code 469 = .ok (.aload_n 2, 1) := by decide +kernel
theorem d_Law_law_470 : decode code 470 = .ok (.aload_n 0, 1) := by decide +kernel
theorem d_Law_law_471 : decode code 471 = .ok (.iload_n 3, 1) := by decide +kernel
theorem d_Law_law_472 : decode code 472 = .ok (.iconst 1, 1) := by decide +kernel
theorem d_Law_law_473 : decode code 473 = .ok (.iadd, 1) := by decide +kernel
theorem d_Law_law_474 : decode code 474 = .ok (.iaload, 1) := by decide +kernel
theorem d_Law_law_475 : decode code 475 = .ok (.invokevirtual 54, 3) := by decide +kernel
theorem d_Law_law_478 : decode code 478 = .ok (.if_icmp .eq 5, 3) := by decide +kernel
theorem d_Law_law_481 : decode code 481 = .ok (.iconst 0, 1) := by decide +kernel
theorem d_Law_law_482 : decode code 482 = .ok (.ireturn, 1) := by decide +kernel
theorem d_Law_law_483 : decode code 483 = .ok (.iinc 3 6, 3) := by decide +kernel
theorem d_Law_law_486 : decode code 486 = .ok (.goto (-468), 3) := by decide +kernel
theorem d_Law_law_489 : decode code 489 = .ok (.iconst 1, 1) := by decide +kernel
theorem d_Law_law_490 : decode code 490 = .ok (.ireturn, 1) := by decide +kernel
end
section
/-! Base: ints as Lean's Int (zI), arrays as functions Int → Int (zA), rows over them, contracts over one world. -/
def zI (z : Int) : Int32 := Int32.ofInt z
theorem zI_add (a b : Int) : zI a + zI b = zI (a + b) := (Int32.ofInt_add a b).symm
theorem zI_sub (a b : Int) : zI a - zI b = zI (a - b) := (Int32.ofInt_sub a b).symm
theorem zI_mul (a b : Int) : zI a * zI b = zI (a * b) := (Int32.ofInt_mul a b).symm
theorem zI_toInt {a : Int} (h : -2147483648 ≤ a) (h2 : a < 2147483648) : (zI a).toInt = a := Int32.toInt_ofInt_of_le (by omega) (by omega)
theorem zI_surj (x : Int32) : x = zI x.toInt := (Int32.ofInt_toInt x).symm
theorem zI_bd (x : Int32) : -2147483648 ≤ x.toInt ∧ x.toInt < 2147483648 := by
  have h1 := x.le_toInt
  have h2 := x.toInt_lt
  omega
theorem zI_lt {a b : Int} (ha : -2147483648 ≤ a ∧ a < 2147483648) (hb : -2147483648 ≤ b ∧ b < 2147483648) : zI a < zI b ↔ a < b := by
  rw [Int32.lt_iff_toInt_lt, zI_toInt ha.1 ha.2, zI_toInt hb.1 hb.2]
theorem zI_le {a b : Int} (ha : -2147483648 ≤ a ∧ a < 2147483648) (hb : -2147483648 ≤ b ∧ b < 2147483648) : zI a ≤ zI b ↔ a ≤ b := by
  rw [Int32.le_iff_toInt_le, zI_toInt ha.1 ha.2, zI_toInt hb.1 hb.2]
theorem zI_eq {a b : Int} (ha : -2147483648 ≤ a ∧ a < 2147483648) (hb : -2147483648 ≤ b ∧ b < 2147483648) : zI a = zI b ↔ a = b := by
  rw [← Int32.toInt_inj, zI_toInt ha.1 ha.2, zI_toInt hb.1 hb.2]
theorem zI_clamp {j : Int} (h0 : 0 ≤ j) (h1 : j < 2147483648) : (zI j).toNatClampNeg = j.toNat := Int32.toNatClampNeg_ofInt_of_le (by omega) (by omega)
theorem zI_in {j : Int} {n : Nat} (h0 : 0 ≤ j) (h1 : j < n) (hn : n < 2147483648) : vp_in (zI j) n := by
  rw [vp_in_iff, zI_toInt (by omega) (by omega)]
  exact ⟨h0, h1⟩
theorem zI_nat (n : Nat) : nI n = zI (n : Int) := (Int32.ofInt_eq_ofNat).symm
theorem zI_0 : zI 0 = 0 := rfl
def zA (f : Int → Int) : Nat → Int32 := fun k => zI (f (k : Int))
def iup (f : Int → Int) (j v : Int) : Int → Int := fun i => if i = j then v else f i
theorem zA_at (f : Int → Int) {j : Int} (h0 : 0 ≤ j) (h1 : j < 2147483648) : zA f (zI j).toNatClampNeg = zI (f j) := by
  rw [zI_clamp h0 h1]
  show zI (f ((j.toNat : Nat) : Int)) = _
  rw [Int.toNat_of_nonneg h0]
theorem zA_upd (f : Int → Int) {j : Int} (v : Int) (h0 : 0 ≤ j) (h1 : j < 2147483648) : upd (zA f) (zI j).toNatClampNeg (zI v) = zA (iup f j v) := by
  rw [zI_clamp h0 h1]
  funext k
  show (if k = j.toNat then zI v else zI (f (k : Int))) = zI (if (k : Int) = j then v else f (k : Int))
  by_cases h : k = j.toNat
  · rw [if_pos h, if_pos (by omega)]
  · rw [if_neg h, if_neg (by omega)]
theorem zA_0 : (fun _ => (0 : Int32)) = zA (fun _ => 0) := rfl
theorem zB_nar {b : Int} (h : b = 0 ∨ b = 1) : narrow .boolean (.int (zI b)) = .int (zI b) := by
  rcases h with rfl | rfl <;> rfl
theorem zB_fit {b : Int} (h : b = 0 ∨ b = 1) : fits .boolean (.int (zI b)) = true := by
  rcases h with rfl | rfl <;> rfl
theorem zB_vp {b : Int} (h : b = 0 ∨ b = 1) : vp_nar .boolean (zI b) = zI b := by
  rcases h with rfl | rfl <;> rfl
def iand (a b : Int) : Int := (zI a &&& zI b).toInt
def ior (a b : Int) : Int := (zI a ||| zI b).toInt
theorem zI_and (a b : Int) : zI a &&& zI b = zI (iand a b) := zI_surj _
theorem zI_or (a b : Int) : zI a ||| zI b = zI (ior a b) := zI_surj _
theorem iand_bd (a b : Int) : -2147483648 ≤ iand a b ∧ iand a b < 2147483648 := zI_bd _
theorem ior_bd (a b : Int) : -2147483648 ≤ ior a b ∧ ior a b < 2147483648 := zI_bd _
section ZR
variable {p : Program} {l : Launch} {e : Env} {R : Room} {s : State} {m : MethodId} {args : Array Value} {below : List Frame} {meth : Method} {c : Code} {H : Heap} {locs : List Loc} {cells slots : Nat} {Q : State → Prop} {cc : ByteArray} {pc : Nat} {ls : Array Slot} {rest : List Value} {D : va_G} {cl : List vw_C} {tys : List (ClassId × FieldType)} {ws : va_W} {A : Nat → Prop} {H0 : Heap}
theorem zx_iconst (hx : p.tables.exec = Jvm.exec) (hb : c.code = cc) {n : Int} (hdg : decode cc pc = .ok (.iconst n, 1)) (k : W p l e R s m args below meth c H locs cells slots Q (F0 m (pc + 1) ls (.int (zI n) :: rest))) : W p l e R s m args below meth c H locs cells slots Q (F0 m pc ls rest) := lv_iconst hx hb hdg rfl k
theorem zx_bipush (hx : p.tables.exec = Jvm.exec) (hb : c.code = cc) {n : Int} (hdg : decode cc pc = .ok (.bipush n, 2)) (hn : -128 ≤ n ∧ n ≤ 127) (k : W p l e R s m args below meth c H locs cells slots Q (F0 m (pc + 2) ls (.int (zI n) :: rest))) : W p l e R s m args below meth c H locs cells slots Q (F0 m pc ls rest) := by
  refine lv_bipush hx hb hdg ?_ k
  rw [← Int32.toInt_inj, zI_toInt (by omega) (by omega), Int8.toInt_toInt32]
  exact Int8.toInt_ofInt_of_le (by omega) (by omega)
theorem zx_sipush (hx : p.tables.exec = Jvm.exec) (hb : c.code = cc) {n : Int} (hdg : decode cc pc = .ok (.sipush n, 3)) (hn : -32768 ≤ n ∧ n ≤ 32767) (k : W p l e R s m args below meth c H locs cells slots Q (F0 m (pc + 3) ls (.int (zI n) :: rest))) : W p l e R s m args below meth c H locs cells slots Q (F0 m pc ls rest) := by
  refine lv_sipush hx hb hdg ?_ k
  rw [← Int32.toInt_inj, zI_toInt (by omega) (by omega), Int16.toInt_toInt32]
  exact Int16.toInt_ofInt_of_le (by omega) (by omega)
theorem zx_iadd (hx : p.tables.exec = Jvm.exec) (hb : c.code = cc) {a b : Int} (hdg : decode cc pc = .ok (.iadd, 1)) (k : W p l e R s m args below meth c H locs cells slots Q (F0 m (pc + 1) ls (.int (zI (a + b)) :: rest))) : W p l e R s m args below meth c H locs cells slots Q (F0 m pc ls (.int (zI b) :: .int (zI a) :: rest)) := lv_iadd hx hb hdg (by rw [zI_add]; exact k)
theorem zx_isub (hx : p.tables.exec = Jvm.exec) (hb : c.code = cc) {a b : Int} (hdg : decode cc pc = .ok (.isub, 1)) (k : W p l e R s m args below meth c H locs cells slots Q (F0 m (pc + 1) ls (.int (zI (a - b)) :: rest))) : W p l e R s m args below meth c H locs cells slots Q (F0 m pc ls (.int (zI b) :: .int (zI a) :: rest)) := lv_isub hx hb hdg (by rw [zI_sub]; exact k)
theorem zx_imul (hx : p.tables.exec = Jvm.exec) (hb : c.code = cc) {a b : Int} (hdg : decode cc pc = .ok (.imul, 1)) (k : W p l e R s m args below meth c H locs cells slots Q (F0 m (pc + 1) ls (.int (zI (a * b)) :: rest))) : W p l e R s m args below meth c H locs cells slots Q (F0 m pc ls (.int (zI b) :: .int (zI a) :: rest)) := lv_imul hx hb hdg (by rw [zI_mul]; exact k)
theorem zx_iand (hx : p.tables.exec = Jvm.exec) (hb : c.code = cc) {a b : Int} (hdg : decode cc pc = .ok (.iand, 1)) (k : W p l e R s m args below meth c H locs cells slots Q (F0 m (pc + 1) ls (.int (zI (iand a b)) :: rest))) : W p l e R s m args below meth c H locs cells slots Q (F0 m pc ls (.int (zI b) :: .int (zI a) :: rest)) := lv_iand hx hb hdg (by rw [zI_and]; exact k)
theorem zx_ior (hx : p.tables.exec = Jvm.exec) (hb : c.code = cc) {a b : Int} (hdg : decode cc pc = .ok (.ior, 1)) (k : W p l e R s m args below meth c H locs cells slots Q (F0 m (pc + 1) ls (.int (zI (ior a b)) :: rest))) : W p l e R s m args below meth c H locs cells slots Q (F0 m pc ls (.int (zI b) :: .int (zI a) :: rest)) := lv_ior hx hb hdg (by rw [zI_or]; exact k)
theorem zx_iinc (hx : p.tables.exec = Jvm.exec) (hb : c.code = cc) {i nL k : Nat} {n : Int} {x : Int} {lv lv' : List (Nat × Value)} (hdg : decode cc pc = .ok (.iinc i n, 3)) (h : lv_has ls nL lv) (hk : lv[k]? = some (i, .int (zI x))) (hn : i < nL) (hl : (i, Value.int (zI (x + n))) :: lv.filter (fun q => !(q.1 == i) && !(q.1 + 1 == i && q.2.category == 2)) = lv')
    (kk : ∀ ls' : Array Slot, lv_has ls' nL lv' → W p l e R s m args below meth c H locs cells slots Q (F0 m (pc + 3) ls' rest)) : W p l e R s m args below meth c H locs cells slots Q (F0 m pc ls rest) := lv_iinc hx hb hdg h hk (show zI x + Int32.ofInt n = zI (x + n) from zI_add x n) hn hl kk
theorem zx_icmp_lt (hx : p.tables.exec = Jvm.exec) (hb : c.code = cc) {a b : Int} {off : Int} {tgt : Nat} (hdg : decode cc pc = .ok (.if_icmp .lt off, 3)) (ht : (pc : Int) + off = (tgt : Int)) (hb2 : (-2147483648 ≤ a ∧ a < 2147483648) ∧ (-2147483648 ≤ b ∧ b < 2147483648)) (kt : a < b → W p l e R s m args below meth c H locs cells slots Q (F0 m tgt ls rest)) (kf : ¬ a < b → W p l e R s m args below meth c H locs cells slots Q (F0 m (pc + 3) ls rest)) : W p l e R s m args below meth c H locs cells slots Q (F0 m pc ls (.int (zI b) :: .int (zI a) :: rest)) := lv_icmp_lt hx hb hdg ht (fun h => kt ((zI_lt hb2.1 hb2.2).mp h)) (fun h => kf (fun q => h ((zI_lt hb2.1 hb2.2).mpr q)))
theorem zx_if_lt (hx : p.tables.exec = Jvm.exec) (hb : c.code = cc) {a : Int} {off : Int} {tgt : Nat} (hdg : decode cc pc = .ok (.ifCond .lt off, 3)) (ht : (pc : Int) + off = (tgt : Int)) (ha : -2147483648 ≤ a ∧ a < 2147483648) (kt : a < 0 → W p l e R s m args below meth c H locs cells slots Q (F0 m tgt ls rest)) (kf : ¬ a < 0 → W p l e R s m args below meth c H locs cells slots Q (F0 m (pc + 3) ls rest)) : W p l e R s m args below meth c H locs cells slots Q (F0 m pc ls (.int (zI a) :: rest)) := lv_if_lt hx hb hdg ht (fun h => kt ((zI_lt ha (show (-2147483648 : Int) ≤ 0 ∧ (0 : Int) < 2147483648 by decide)).mp h)) (fun h => kf (fun q => h ((zI_lt ha (show (-2147483648 : Int) ≤ 0 ∧ (0 : Int) < 2147483648 by decide)).mpr q)))
theorem zx_icmp_ge (hx : p.tables.exec = Jvm.exec) (hb : c.code = cc) {a b : Int} {off : Int} {tgt : Nat} (hdg : decode cc pc = .ok (.if_icmp .ge off, 3)) (ht : (pc : Int) + off = (tgt : Int)) (hb2 : (-2147483648 ≤ a ∧ a < 2147483648) ∧ (-2147483648 ≤ b ∧ b < 2147483648)) (kt : b ≤ a → W p l e R s m args below meth c H locs cells slots Q (F0 m tgt ls rest)) (kf : ¬ b ≤ a → W p l e R s m args below meth c H locs cells slots Q (F0 m (pc + 3) ls rest)) : W p l e R s m args below meth c H locs cells slots Q (F0 m pc ls (.int (zI b) :: .int (zI a) :: rest)) := lv_icmp_ge hx hb hdg ht (fun h => kt ((zI_le hb2.2 hb2.1).mp h)) (fun h => kf (fun q => h ((zI_le hb2.2 hb2.1).mpr q)))
theorem zx_if_ge (hx : p.tables.exec = Jvm.exec) (hb : c.code = cc) {a : Int} {off : Int} {tgt : Nat} (hdg : decode cc pc = .ok (.ifCond .ge off, 3)) (ht : (pc : Int) + off = (tgt : Int)) (ha : -2147483648 ≤ a ∧ a < 2147483648) (kt : 0 ≤ a → W p l e R s m args below meth c H locs cells slots Q (F0 m tgt ls rest)) (kf : ¬ 0 ≤ a → W p l e R s m args below meth c H locs cells slots Q (F0 m (pc + 3) ls rest)) : W p l e R s m args below meth c H locs cells slots Q (F0 m pc ls (.int (zI a) :: rest)) := lv_if_ge hx hb hdg ht (fun h => kt ((zI_le (show (-2147483648 : Int) ≤ 0 ∧ (0 : Int) < 2147483648 by decide) ha).mp h)) (fun h => kf (fun q => h ((zI_le (show (-2147483648 : Int) ≤ 0 ∧ (0 : Int) < 2147483648 by decide) ha).mpr q)))
theorem zx_icmp_gt (hx : p.tables.exec = Jvm.exec) (hb : c.code = cc) {a b : Int} {off : Int} {tgt : Nat} (hdg : decode cc pc = .ok (.if_icmp .gt off, 3)) (ht : (pc : Int) + off = (tgt : Int)) (hb2 : (-2147483648 ≤ a ∧ a < 2147483648) ∧ (-2147483648 ≤ b ∧ b < 2147483648)) (kt : b < a → W p l e R s m args below meth c H locs cells slots Q (F0 m tgt ls rest)) (kf : ¬ b < a → W p l e R s m args below meth c H locs cells slots Q (F0 m (pc + 3) ls rest)) : W p l e R s m args below meth c H locs cells slots Q (F0 m pc ls (.int (zI b) :: .int (zI a) :: rest)) := lv_icmp_gt hx hb hdg ht (fun h => kt ((zI_lt hb2.2 hb2.1).mp h)) (fun h => kf (fun q => h ((zI_lt hb2.2 hb2.1).mpr q)))
theorem zx_if_gt (hx : p.tables.exec = Jvm.exec) (hb : c.code = cc) {a : Int} {off : Int} {tgt : Nat} (hdg : decode cc pc = .ok (.ifCond .gt off, 3)) (ht : (pc : Int) + off = (tgt : Int)) (ha : -2147483648 ≤ a ∧ a < 2147483648) (kt : 0 < a → W p l e R s m args below meth c H locs cells slots Q (F0 m tgt ls rest)) (kf : ¬ 0 < a → W p l e R s m args below meth c H locs cells slots Q (F0 m (pc + 3) ls rest)) : W p l e R s m args below meth c H locs cells slots Q (F0 m pc ls (.int (zI a) :: rest)) := lv_if_gt hx hb hdg ht (fun h => kt ((zI_lt (show (-2147483648 : Int) ≤ 0 ∧ (0 : Int) < 2147483648 by decide) ha).mp h)) (fun h => kf (fun q => h ((zI_lt (show (-2147483648 : Int) ≤ 0 ∧ (0 : Int) < 2147483648 by decide) ha).mpr q)))
theorem zx_icmp_le (hx : p.tables.exec = Jvm.exec) (hb : c.code = cc) {a b : Int} {off : Int} {tgt : Nat} (hdg : decode cc pc = .ok (.if_icmp .le off, 3)) (ht : (pc : Int) + off = (tgt : Int)) (hb2 : (-2147483648 ≤ a ∧ a < 2147483648) ∧ (-2147483648 ≤ b ∧ b < 2147483648)) (kt : a ≤ b → W p l e R s m args below meth c H locs cells slots Q (F0 m tgt ls rest)) (kf : ¬ a ≤ b → W p l e R s m args below meth c H locs cells slots Q (F0 m (pc + 3) ls rest)) : W p l e R s m args below meth c H locs cells slots Q (F0 m pc ls (.int (zI b) :: .int (zI a) :: rest)) := lv_icmp_le hx hb hdg ht (fun h => kt ((zI_le hb2.1 hb2.2).mp h)) (fun h => kf (fun q => h ((zI_le hb2.1 hb2.2).mpr q)))
theorem zx_if_le (hx : p.tables.exec = Jvm.exec) (hb : c.code = cc) {a : Int} {off : Int} {tgt : Nat} (hdg : decode cc pc = .ok (.ifCond .le off, 3)) (ht : (pc : Int) + off = (tgt : Int)) (ha : -2147483648 ≤ a ∧ a < 2147483648) (kt : a ≤ 0 → W p l e R s m args below meth c H locs cells slots Q (F0 m tgt ls rest)) (kf : ¬ a ≤ 0 → W p l e R s m args below meth c H locs cells slots Q (F0 m (pc + 3) ls rest)) : W p l e R s m args below meth c H locs cells slots Q (F0 m pc ls (.int (zI a) :: rest)) := lv_if_le hx hb hdg ht (fun h => kt ((zI_le ha (show (-2147483648 : Int) ≤ 0 ∧ (0 : Int) < 2147483648 by decide)).mp h)) (fun h => kf (fun q => h ((zI_le ha (show (-2147483648 : Int) ≤ 0 ∧ (0 : Int) < 2147483648 by decide)).mpr q)))
theorem zx_icmp_eq (hx : p.tables.exec = Jvm.exec) (hb : c.code = cc) {a b : Int} {off : Int} {tgt : Nat} (hdg : decode cc pc = .ok (.if_icmp .eq off, 3)) (ht : (pc : Int) + off = (tgt : Int)) (hb2 : (-2147483648 ≤ a ∧ a < 2147483648) ∧ (-2147483648 ≤ b ∧ b < 2147483648)) (kt : a = b → W p l e R s m args below meth c H locs cells slots Q (F0 m tgt ls rest)) (kf : ¬ a = b → W p l e R s m args below meth c H locs cells slots Q (F0 m (pc + 3) ls rest)) : W p l e R s m args below meth c H locs cells slots Q (F0 m pc ls (.int (zI b) :: .int (zI a) :: rest)) := lv_icmp_eq hx hb hdg ht (fun h => kt ((zI_eq hb2.1 hb2.2).mp h)) (fun h => kf (fun q => h ((zI_eq hb2.1 hb2.2).mpr q)))
theorem zx_if_eq (hx : p.tables.exec = Jvm.exec) (hb : c.code = cc) {a : Int} {off : Int} {tgt : Nat} (hdg : decode cc pc = .ok (.ifCond .eq off, 3)) (ht : (pc : Int) + off = (tgt : Int)) (ha : -2147483648 ≤ a ∧ a < 2147483648) (kt : a = 0 → W p l e R s m args below meth c H locs cells slots Q (F0 m tgt ls rest)) (kf : ¬ a = 0 → W p l e R s m args below meth c H locs cells slots Q (F0 m (pc + 3) ls rest)) : W p l e R s m args below meth c H locs cells slots Q (F0 m pc ls (.int (zI a) :: rest)) := lv_if_eq hx hb hdg ht (fun h => kt ((zI_eq ha (show (-2147483648 : Int) ≤ 0 ∧ (0 : Int) < 2147483648 by decide)).mp h)) (fun h => kf (fun q => h ((zI_eq ha (show (-2147483648 : Int) ≤ 0 ∧ (0 : Int) < 2147483648 by decide)).mpr q)))
theorem zx_icmp_ne (hx : p.tables.exec = Jvm.exec) (hb : c.code = cc) {a b : Int} {off : Int} {tgt : Nat} (hdg : decode cc pc = .ok (.if_icmp .ne off, 3)) (ht : (pc : Int) + off = (tgt : Int)) (hb2 : (-2147483648 ≤ a ∧ a < 2147483648) ∧ (-2147483648 ≤ b ∧ b < 2147483648)) (kt : ¬ a = b → W p l e R s m args below meth c H locs cells slots Q (F0 m tgt ls rest)) (kf : a = b → W p l e R s m args below meth c H locs cells slots Q (F0 m (pc + 3) ls rest)) : W p l e R s m args below meth c H locs cells slots Q (F0 m pc ls (.int (zI b) :: .int (zI a) :: rest)) := lv_icmp_ne hx hb hdg ht (fun h => kt (fun q => h ((zI_eq hb2.1 hb2.2).mpr q))) (fun h => kf ((zI_eq hb2.1 hb2.2).mp h))
theorem zx_if_ne (hx : p.tables.exec = Jvm.exec) (hb : c.code = cc) {a : Int} {off : Int} {tgt : Nat} (hdg : decode cc pc = .ok (.ifCond .ne off, 3)) (ht : (pc : Int) + off = (tgt : Int)) (ha : -2147483648 ≤ a ∧ a < 2147483648) (kt : ¬ a = 0 → W p l e R s m args below meth c H locs cells slots Q (F0 m tgt ls rest)) (kf : a = 0 → W p l e R s m args below meth c H locs cells slots Q (F0 m (pc + 3) ls rest)) : W p l e R s m args below meth c H locs cells slots Q (F0 m pc ls (.int (zI a) :: rest)) := lv_if_ne hx hb hdg ht (fun h => kt (fun q => h ((zI_eq ha (show (-2147483648 : Int) ≤ 0 ∧ (0 : Int) < 2147483648 by decide)).mpr q))) (fun h => kf ((zI_eq ha (show (-2147483648 : Int) ≤ 0 ∧ (0 : Int) < 2147483648 by decide)).mp h))
theorem zx_iald (hx : p.tables.exec = Jvm.exec) (hb : c.code = cc) (hK : va_K D cl tys s) (hP : va_P D cl ws H) (q0 t0 : Nat) {a : Nat} {cA : ClassId} {n : Nat} {f : Int → Int} (ha : ws[q0]? = some (a, .inl (cA, n, .inl (zA f)))) (ht : tys[t0]? = some (cA, .int)) {j : Int} (hn : n < 2147483648) (hj : 0 ≤ j ∧ j < n) (hdg : decode cc pc = .ok (.iaload, 1))
    (kk : W p l e R s m args below meth c H locs cells slots Q (F0 m (pc + 1) ls (.int (zI (f j)) :: rest))) : W p l e R s m args below meth c H locs cells slots Q (F0 m pc ls (.int (zI j) :: .ref a :: rest)) :=
  va_iald hx hb hK hP q0 t0 ha ht (zI_in hj.1 hj.2 hn) hdg (by rw [zA_at f hj.1 (by omega)]; exact kk)
theorem zx_zald (hx : p.tables.exec = Jvm.exec) (hb : c.code = cc) (hK : va_K D cl tys s) (hP : va_P D cl ws H) (q0 t0 : Nat) {a : Nat} {cA : ClassId} {n : Nat} {f : Int → Int} (ha : ws[q0]? = some (a, .inl (cA, n, .inl (zA f)))) (ht : tys[t0]? = some (cA, .boolean)) {j : Int} (hn : n < 2147483648) (hj : 0 ≤ j ∧ j < n) (hdg : decode cc pc = .ok (.baload, 1))
    (kk : W p l e R s m args below meth c H locs cells slots Q (F0 m (pc + 1) ls (.int (zI (f j)) :: rest))) : W p l e R s m args below meth c H locs cells slots Q (F0 m pc ls (.int (zI j) :: .ref a :: rest)) :=
  va_zald hx hb hK hP q0 t0 ha ht (zI_in hj.1 hj.2 hn) hdg (by rw [zA_at f hj.1 (by omega)]; exact kk)
theorem zx_iast (hx : p.tables.exec = Jvm.exec) (hb : c.code = cc) (hK : va_K D cl tys s) (hP : va_P D cl ws H) (hD : va_D A ws) (hS : va_S A H0 H locs) (q0 t0 : Nat) {a : Nat} {cA : ClassId} {n : Nat} {f : Int → Int} (ha : ws[q0]? = some (a, .inl (cA, n, .inl (zA f)))) (ht : tys[t0]? = some (cA, .int)) {j v : Int} (hn : n < 2147483648) (hj : 0 ≤ j ∧ j < n) (hdg : decode cc pc = .ok (.iastore, 1))
    (kk : ∀ (H1 : Heap) (locs1 : List Loc), va_P D cl (ws.set q0 (a, .inl (cA, n, .inl (zA (iup f j v))))) H1 → va_D A (ws.set q0 (a, .inl (cA, n, .inl (zA (iup f j v))))) → va_S A H0 H1 locs1 → W p l e R s m args below meth c H1 locs1 cells slots Q (F0 m (pc + 1) ls rest)) : W p l e R s m args below meth c H locs cells slots Q (F0 m pc ls (.int (zI v) :: .int (zI j) :: .ref a :: rest)) :=
  va_iast hx hb hK hP hD hS q0 t0 ha ht (zI_in hj.1 hj.2 hn) hdg (fun H1 locs1 h1 h2 h3 => by rw [zA_upd f v hj.1 (by omega)] at h1 h2; exact kk H1 locs1 h1 h2 h3)
theorem zx_zast (hx : p.tables.exec = Jvm.exec) (hb : c.code = cc) (hK : va_K D cl tys s) (hP : va_P D cl ws H) (hD : va_D A ws) (hS : va_S A H0 H locs) (q0 t0 : Nat) {a : Nat} {cA : ClassId} {n : Nat} {f : Int → Int} (ha : ws[q0]? = some (a, .inl (cA, n, .inl (zA f)))) (ht : tys[t0]? = some (cA, .boolean)) {j v : Int} (hn : n < 2147483648) (hj : 0 ≤ j ∧ j < n) (hv : v = 0 ∨ v = 1) (hdg : decode cc pc = .ok (.bastore, 1))
    (kk : ∀ (H1 : Heap) (locs1 : List Loc), va_P D cl (ws.set q0 (a, .inl (cA, n, .inl (zA (iup f j v))))) H1 → va_D A (ws.set q0 (a, .inl (cA, n, .inl (zA (iup f j v))))) → va_S A H0 H1 locs1 → W p l e R s m args below meth c H1 locs1 cells slots Q (F0 m (pc + 1) ls rest)) : W p l e R s m args below meth c H locs cells slots Q (F0 m pc ls (.int (zI v) :: .int (zI j) :: .ref a :: rest)) :=
  va_zast hx hb hK hP hD hS q0 t0 ha ht (zI_in hj.1 hj.2 hn) hdg (fun H1 locs1 h1 h2 h3 => by rw [zB_vp hv, zA_upd f v hj.1 (by omega)] at h1 h2; exact kk H1 locs1 h1 h2 h3)
end ZR
end
section
/-! Contracts over one world: PE, QEi, QEv; a method's start, its ends, a call. -/
def AE (L : List Nat) (sz : Nat) : Nat → Prop := fun q => q ∈ L ∨ sz ≤ q
def EW (D : va_G) (cl : List vw_C) (A : Nat → Prop) (ws : va_W) (H0 H : Heap) (locs : List Loc) : Prop := va_P D cl ws H ∧ va_D A ws ∧ va_S A H0 H locs
def NW (U : State) : Prop := va_Nw (.methodLinkNest R_Tree 41 y_Engine_isWithin "LifecycleEngine") U ∧ va_Nw (.methodLinkNest R_Journal 53 y_Engine_isWithin "LifecycleEngine") U ∧ va_Nw (.methodLinkNest R_Runner 54 y_Engine_isWithin "LifecycleEngine") U
theorem NW.warm {s U : State} (hW : s.WarmedH U.vm) (h : NW s) : NW U := ⟨h.1.warmM hW, h.2.1.warmM hW, h.2.2.warmM hW⟩
theorem NW.same {u U : State} (hW : u.vm = U.vm) (h : NW u) : NW U := ⟨h.1.same rfl hW, h.2.1.same rfl hW, h.2.2.same rfl hW⟩
/-- what a method knows of the tables at its start -/
def KN (D : va_G) (cl : List vw_C) (tys : List (ClassId × FieldType)) (U : State) : Prop := va_K D cl tys U ∧ NW U
def PE (D : va_G) (cl : List vw_C) (tys : List (ClassId × FieldType)) (ws : va_W) (sz : Nat) (av : List Value) : Array Value → State → Prop := va_Pc av (fun U => U.heap.size = sz ∧ va_P D cl ws U.heap ∧ KN D cl tys U ∧ va_D (fun _ => True) ws)
def BE {S : Type} (D : va_G) (cl : List vw_C) (L : List Nat) (sz : Nat) (wf : S → va_W) (u : S) (t : State) : Prop := va_P D cl (wf u) t.heap ∧ va_D (AE L sz) (wf u)
def QEi {S : Type} (D : va_G) (cl : List vw_C) (L : List Nat) (sz : Nat) (post : Int32 → S → Prop) (wf : S → va_W) : Array Value → State → Outcome → State → Prop := va_Qi post (BE D cl L sz wf) (AE L sz)
def QEv {S : Type} (D : va_G) (cl : List vw_C) (L : List Nat) (sz : Nat) (post : S → Prop) (wf : S → va_W) : Array Value → State → Outcome → State → Prop := va_Qv post (BE D cl L sz wf) (AE L sz)
theorem AE_of {ws : va_W} {L : List Nat} {sz : Nat} (hL : ws.map Prod.fst = L) : ∀ (k : Nat) (q : Nat × va_E), ws[k]? = some q → AE L sz q.1 := by
  intro k q hk
  refine Or.inl ?_
  rw [← hL]
  exact List.mem_map_of_mem (List.mem_of_getElem? hk)
theorem PE_blind {D : va_G} {cl : List vw_C} {tys : List (ClassId × FieldType)} {ws : va_W} {sz : Nat} {av : List Value} : FrameBlind (PE D cl tys ws sz av) := fun a U g mk q => by
  obtain ⟨q0, q1, qP, qK, qD⟩ := q
  exact ⟨q0, q1, qP, ⟨va_K.moved (u := U) (U := U.calling g mk a) (Vm.Alike.refl U.vm) qK.1, qK.2.same (U := U.calling g mk a) rfl⟩, qD⟩
theorem E_start {l : Launch} {y : MethodName} {Wx : List Cond} {rm : Room} {cc : ByteArray} {maxL : Nat} {ret : Option FieldType} {D : va_G} {cl : List vw_C} {tys : List (ClassId × FieldType)} {ws : va_W} {sz : Nat} {av : List Value} {L : List Nat} {Qc : Array Value → State → Outcome → State → Prop} (hy : plainName y.cls = true) (hL : ws.map Prod.fst = L) (hav : (lg_sl av).length ≤ maxL) {mc ms : Nat}
    (body : ∀ (p : Program) (e : Env) (s : State) (m : MethodId) (args : Array Value) (below : List Frame) (meth : Method) (c : Code), CallFix p m c cc maxL s args Wx y.cls → meth.sig.returnType = ret → meth.locks = false → meth.name = y.name → s.heap.size = sz → KN D cl tys s → ∀ (H : Heap) (locs : List Loc), EW D cl (AE L sz) ws s.heap H locs → ∀ ls : Array Slot, lv_has ls maxL (lv_args 0 av) →
      W p l e rm s m args below meth c H locs 0 0 (MQ below Qc args s mc ms (AE L sz)) (F0 m 0 ls [])) :
    Met l y (Cond.code y cc maxL ret :: Wx) rm (PE D cl tys ws sz av) Qc mc ms (AE L sz) := by
  refine Met.ofW (cc := cc) (maxL := maxL) (ret := ret) hy rfl ?_
  intro p e s m args below meth c s₁ B hml hv
  obtain ⟨rfl, hsz, hP, hK, hD0⟩ := hv
  have hts := atoms_spec (ws := Cond.code y cc maxL ret :: Wx) B.pre
  have hown : s.vm.findClass y.cls = some m.cls := findClass_of_methodNamed B.named
  have hin : meth.name = y.name := (name_of_methodNamed B.named B.method).1
  have hl := lv_entry av (n := maxL) hav
  rw [lg_entry_eq]
  exact body p e s m _ below meth c ⟨B.exec, B.bytes, hml, hown, fun w hw => hts w (List.mem_cons_of_mem _ hw)⟩ B.returns B.notSynchronized hin hsz hK _ _ ⟨hP, ⟨hD0.1, AE_of hL⟩, va_S.rf⟩ _ hl
section EL
variable {p : Program} {l : Launch} {e : Env} {R : Room} {s : State} {m : MethodId} {args : Array Value} {below : List Frame} {meth : Method} {c : Code} {H : Heap} {locs : List Loc} {cells slots : Nat} {Q : State → Prop} {cc : ByteArray} {pc nL : Nat} {ls : Array Slot} {rest : List Value} {D : va_G} {cl : List vw_C} {tys : List (ClassId × FieldType)} {Wx : List Cond} {own : String} {L : List Nat} {sz : Nat}
theorem E_iret {S : Type} {wf : S → va_W} {post : Int32 → S → Prop} (C : CallFix p m c cc nL s args Wx own) (hr : meth.sig.returnType = some .int) (hlk : meth.locks = false) (u : S) {v : Int32} (hE : EW D cl (AE L sz) (wf u) s.heap H locs) (hp : post v u) (hdg : decode cc pc = .ok (.ireturn, 1)) :
    W p l e R s m args below meth c H locs cells slots (MQ below (QEi D cl L sz post wf) args s cells slots (AE L sz)) (F0 m pc ls [.int v]) :=
  W.iret C.1 C.2.1 hr (fun t ht hW => ⟨⟨v, u, rfl, hp, by rw [ht]; exact hE.1, hE.2.1⟩, hE.2.2.F ht⟩) hE.2.2.2.2 hdg hlk
theorem E_zret {S : Type} {wf : S → va_W} {post : Int32 → S → Prop} (C : CallFix p m c cc nL s args Wx own) (hr : meth.sig.returnType = some .boolean) (hlk : meth.locks = false) (u : S) {v : Int} (hv : v = 0 ∨ v = 1) (hE : EW D cl (AE L sz) (wf u) s.heap H locs) (hp : post (zI v) u) (hdg : decode cc pc = .ok (.ireturn, 1)) :
    W p l e R s m args below meth c H locs cells slots (MQ below (QEi D cl L sz post wf) args s cells slots (AE L sz)) (F0 m pc ls [.int (zI v)]) :=
  W.zret C.1 C.2.1 hr (zB_nar hv) (fun t ht hW => ⟨⟨zI v, u, rfl, hp, by rw [ht]; exact hE.1, hE.2.1⟩, hE.2.2.F ht⟩) hE.2.2.2.2 hdg hlk
theorem E_vret {S : Type} {wf : S → va_W} {post : S → Prop} (C : CallFix p m c cc nL s args Wx own) (hr : meth.sig.returnType = none) (hlk : meth.locks = false) (u : S) (hE : EW D cl (AE L sz) (wf u) s.heap H locs) (hp : post u) (hdg : decode cc pc = .ok (.return_, 1)) :
    W p l e R s m args below meth c H locs cells slots (MQ below (QEv D cl L sz post wf) args s cells slots (AE L sz)) (F0 m pc ls []) :=
  W.vret C.1 C.2.1 hr (fun t ht hW => ⟨⟨u, rfl, hp, by rw [ht]; exact hE.1, hE.2.1⟩, hE.2.2.F ht⟩) hE.2.2.2.2 hdg hlk
theorem E_preV {A : Nat → Prop} {ws : va_W} {H0 : Heap} {b : Addr} {As : List Value} {q0 ci : Nat} {q : vw_C} {fs : List Value} (hK : KN D cl tys s) (hE : EW D cl A ws H0 H locs) (hc : cl[ci]? = some q) (he : ws[q0]? = some (b, .inr (ci, fs))) : PreV s H q.1 b (PE D cl tys ws H.size (.ref b :: As)) As :=
  ⟨PE_blind, va_recv hK.1 hE.1 hc he, fun U hU hW => ⟨rfl, by rw [hU], by rw [hU]; exact hE.1, ⟨va_K.moved hW.alike hK.1, hK.2.warm hW⟩, hE.2.1.weaken (fun _ _ _ _ => trivial)⟩⟩
theorem E_preS {A : Nat → Prop} {ws : va_W} {H0 : Heap} {As : List Value} (hK : KN D cl tys s) (hE : EW D cl A ws H0 H locs) : PreS s H (PE D cl tys ws H.size As) As :=
  ⟨PE_blind, fun U hU hW => ⟨rfl, by rw [hU], by rw [hU]; exact hE.1, ⟨va_K.moved hW.alike hK.1, hK.2.warm hW⟩, hE.2.1.weaken (fun _ _ _ _ => trivial)⟩⟩
theorem AE_sub {A : Nat → Prop} {H0 : Heap} (hS : va_S (AE L H0.size) H0 H locs) : ∀ q, AE L H.size q → AE L H0.size q := fun q h => by
  rcases h with h | h
  · exact Or.inl h
  · exact Or.inr (Nat.le_trans hS.1 h)
theorem E_calli {S : Type} {wf : S → va_W} {ws : va_W} {post : Int32 → S → Prop} {a : Array Value} {st0 : List Value} (hsz : s.heap.size = sz) (hE : EW D cl (AE L sz) ws s.heap H locs)
    (hr : va_Run p l e R s m args below meth c H locs cells slots 0 0 (F0 m pc ls st0) rest (QEi D cl L H.size post wf a) (AE L H.size))
    (kk : ∀ (r : Int32) (u : S) (H1 : Heap) (locs1 : List Loc), post r u → EW D cl (AE L sz) (wf u) s.heap H1 locs1 → W p l e R s m args below meth c H1 locs1 cells slots Q (F0 m (pc + 3) ls (.int r :: rest))) : W p l e R s m args below meth c H locs cells slots Q (F0 m pc ls st0) := by
  subst hsz
  have hsub := AE_sub (A := AE L s.heap.size) hE.2.2
  exact va_calli hr hE.2.2 (fun q _ h => hsub q h) hsub (fun r u t H1 locs1 ht hvm hw hB hz1 hk1 hS => kk r u H1 locs1 hw ⟨by rw [← ht]; exact hB.1, hB.2.weaken (fun _ q _ h => hsub q.1 h), hS⟩)
theorem E_callv {S : Type} {wf : S → va_W} {ws : va_W} {post : S → Prop} {a : Array Value} {st0 : List Value} (hsz : s.heap.size = sz) (hE : EW D cl (AE L sz) ws s.heap H locs)
    (hr : va_Run p l e R s m args below meth c H locs cells slots 0 0 (F0 m pc ls st0) rest (QEv D cl L H.size post wf a) (AE L H.size))
    (kk : ∀ (u : S) (H1 : Heap) (locs1 : List Loc), post u → EW D cl (AE L sz) (wf u) s.heap H1 locs1 → W p l e R s m args below meth c H1 locs1 cells slots Q (F0 m (pc + 3) ls rest)) : W p l e R s m args below meth c H locs cells slots Q (F0 m pc ls st0) := by
  subst hsz
  have hsub := AE_sub (A := AE L s.heap.size) hE.2.2
  exact va_callv hr hE.2.2 (fun q _ h => hsub q h) hsub (fun u t H1 locs1 ht hvm hw hB hz1 hk1 hS => kk u H1 locs1 hw ⟨by rw [← ht]; exact hB.1, hB.2.weaken (fun _ q _ h => hsub q.1 h), hS⟩)
theorem E_cwV {C : String} {index maxL n mc ms : Nat} {y : MethodName} {bytes : ByteArray} {ret : Option FieldType} {rm : Room} (hW : ∀ w ∈ Wx, w.before args s = true) (hG : GoodIn Wx Wx) (hm : ∀ w ∈ (([.methodLink own index y, .instanceMethod y, .selects C y y, .initialized C] : List Cond) ++ [Cond.code y bytes maxL ret]), w ∈ Wx) (hrc : rm.cells = mc) (hrs : rm.slots = ms)
    (hd : y.cls = C ∧ y.cls ≠ "java/lang/invoke/MethodHandle" ∧ y.cls ≠ "java/lang/invoke/VarHandle" ∧ (parseMethodDescriptor y.desc).map (fun d => d.parameters.length) = some n) (hR : rm.frames + 1 ≤ R.frames ∧ 8 + (maxL + 11) + rm.locals ≤ R.locals) :
    CallW R s args own C index y bytes maxL ret (Cond.code y bytes maxL ret :: Wx) rm mc ms n := by
  refine cwV n hW (fun w hw => hG w ?_) rfl hrc hrs hd hR
  rcases List.mem_append.mp hw with h | h
  · exact hm w (List.mem_append_left _ h)
  · rcases List.mem_cons.mp h with rfl | h
    · exact hm _ (List.mem_append_right _ List.mem_cons_self)
    · exact h
theorem E_cwN {host : String} {index maxL n mc ms : Nat} {y : MethodName} {bytes : ByteArray} {ret : Option FieldType} {rm : Room} (hW : ∀ w ∈ Wx, w.before args s = true) (hG : GoodIn Wx Wx) (hl : va_Nw (.methodLinkNest own index y host) s) (hm : ∀ w ∈ (([.static y, .initialized y.cls] : List Cond) ++ [Cond.code y bytes maxL ret]), w ∈ Wx) (hrc : rm.cells = mc) (hrs : rm.slots = ms)
    (hd : y.cls ≠ "java/lang/invoke/MethodHandle" ∧ y.cls ≠ "java/lang/invoke/VarHandle" ∧ (parseMethodDescriptor y.desc).map (fun d => d.parameters.length) = some n) (hR : rm.frames + 1 ≤ R.frames ∧ 8 + (maxL + 11) + rm.locals ≤ R.locals) :
    va_CN R s args own index y host bytes maxL ret (Cond.code y bytes maxL ret :: Wx) rm mc ms n ∧ (Cond.static y).before args s = true ∧ True := by
  have hb : ∀ w ∈ (([.static y, .initialized y.cls] : List Cond) ++ [Cond.code y bytes maxL ret]), w.before args s = true := fun w h => hW w (hm w h)
  refine ⟨va_cnB n hW (fun w hw => hG w ?_) rfl hrc hrs hl (hb _ (by simp)) hd hR, hb _ (by simp), trivial⟩
  rcases List.mem_cons.mp hw with rfl | h
  · exact hm _ (List.mem_append_right _ List.mem_cons_self)
  · exact h
theorem E_cwS {index maxL n mc ms : Nat} {y : MethodName} {bytes : ByteArray} {ret : Option FieldType} {rm : Room} (hW : ∀ w ∈ Wx, w.before args s = true) (hG : GoodIn Wx Wx) (hm : ∀ w ∈ (([.methodLink own index y, .static y, .initialized y.cls] : List Cond) ++ [Cond.code y bytes maxL ret]), w ∈ Wx) (hrc : rm.cells = mc) (hrs : rm.slots = ms)
    (hd : y.cls ≠ "java/lang/invoke/MethodHandle" ∧ y.cls ≠ "java/lang/invoke/VarHandle" ∧ (parseMethodDescriptor y.desc).map (fun d => d.parameters.length) = some n) (hR : rm.frames + 1 ≤ R.frames ∧ 8 + (maxL + 11) + rm.locals ≤ R.locals) :
    CallB R s args own index y bytes maxL ret (Cond.code y bytes maxL ret :: Wx) rm mc ms n ∧ (Cond.static y).before args s = true := by
  have hb : ∀ w ∈ (([.methodLink own index y, .static y, .initialized y.cls] : List Cond) ++ [Cond.code y bytes maxL ret]), w.before args s = true := fun w h => hW w (hm w h)
  refine ⟨callB_of n hW (fun w hw => hG w ?_) rfl hrc hrs (hb _ (by simp)) (hb _ (by simp)) hd hR, hb _ (by simp)⟩
  rcases List.mem_cons.mp hw with rfl | h
  · exact hm _ (List.mem_append_right _ List.mem_cons_self)
  · exact h
end EL
end
section
def tyE (cI cZ cQ : ClassId) : List (ClassId × FieldType) := [(cI, .int), (cZ, .boolean), (cQ, .object R_Troubles)]
def iup2 (f : Int → Int → Int) (v j x : Int) : Int → Int → Int := fun a => if a = v then iup (f v) j x else f a
abbrev TSt : Type := (Int → Int) × (Int → Int) × (Int → Int) × (Int → Int) × (Int → Int) × (Int → Int) × (Int → Int) × (Int → Int) × Int
abbrev g_par (s : TSt) : Int → Int := s.1
abbrev g_dep (s : TSt) : Int → Int := s.2.1
abbrev g_ord (s : TSt) : Int → Int := s.2.2.1
abbrev g_tag (s : TSt) : Int → Int := s.2.2.2.1
abbrev g_dis (s : TSt) : Int → Int := s.2.2.2.2.1
abbrev g_shr (s : TSt) : Int → Int := s.2.2.2.2.2.1
abbrev g_rnd (s : TSt) : Int → Int := s.2.2.2.2.2.2.1
abbrev g_dln (s : TSt) : Int → Int := s.2.2.2.2.2.2.2.1
abbrev g_tsz (s : TSt) : Int := s.2.2.2.2.2.2.2.2
abbrev MSt : Type := (Int → Int) × (Int → Int) × (Int → Int) × (Int → Int)
abbrev g_thr (s : MSt) : Int → Int := s.1
abbrev g_res (s : MSt) : Int → Int := s.2.1
abbrev g_cod (s : MSt) : Int → Int := s.2.2.1
abbrev g_len (s : MSt) : Int → Int := s.2.2.2
abbrev CSt : Type := (Int → Int) × (Int → Int) × Int
abbrev g_alt (s : CSt) : Int → Int := s.1
abbrev g_cho (s : CSt) : Int → Int := s.2.1
abbrev g_nch (s : CSt) : Int := s.2.2
abbrev JSt : Type := (Int → Int) × (Int → Int) × (Int → Int) × Int × Int × Int × Int
abbrev g_fld (s : JSt) : Int → Int := s.1
abbrev g_jco (s : JSt) : Int → Int := s.2.1
abbrev g_rbs (s : JSt) : Int → Int := s.2.2.1
abbrev g_ev (s : JSt) : Int := s.2.2.2.1
abbrev g_sk (s : JSt) : Int := s.2.2.2.2.1
abbrev g_tc (s : JSt) : Int := s.2.2.2.2.2.1
abbrev g_fa (s : JSt) : Int := s.2.2.2.2.2.2
abbrev RSt : Type := (Int → Int) × (Int → Int) × Int × Int × Int × Int
abbrev g_pth (s : RSt) : Int → Int := s.1
abbrev g_ins (s : RSt) : Int → Int := s.2.1
abbrev g_im (s : RSt) : Int := s.2.2.1
abbrev g_tm (s : RSt) : Int := s.2.2.2.1
abbrev g_ca (s : RSt) : Int := s.2.2.2.2.1
abbrev g_br (s : RSt) : Int := s.2.2.2.2.2
abbrev LSt : Type := (Int → Int → Int) × (Int → Int) × (Int → Int)
abbrev g_lc (s : LSt) : Int → Int → Int := s.1
abbrev g_lz (s : LSt) : Int → Int := s.2.1
abbrev g_lg (s : LSt) : Int → Int := s.2.2
def wE (cI cZ cQ : ClassId) (ad : Nat → Nat) (T : TSt) (M : MSt) (Cc : CSt) (J : JSt) (Rr : RSt) (Ls : LSt) : va_W := [(ad 0, .inr (6, [.ref (ad 1), .ref (ad 10), .ref (ad 15), .ref (ad 18), .ref (ad 22)])),
  (ad 1, .inr (4, [.ref (ad 2), .ref (ad 3), .ref (ad 4), .ref (ad 5), .ref (ad 6), .ref (ad 7), .ref (ad 8), .ref (ad 9), .int (zI (g_tsz T))])),
  (ad 2, .inl (cI, 24, .inl (zA (g_par T)))),
  (ad 3, .inl (cI, 24, .inl (zA (g_dep T)))),
  (ad 4, .inl (cI, 24, .inl (zA (g_ord T)))),
  (ad 5, .inl (cI, 24, .inl (zA (g_tag T)))),
  (ad 6, .inl (cZ, 24, .inl (zA (g_dis T)))),
  (ad 7, .inl (cZ, 24, .inl (zA (g_shr T)))),
  (ad 8, .inl (cI, 24, .inl (zA (g_rnd T)))),
  (ad 9, .inl (cI, 24, .inl (zA (g_dln T)))),
  (ad 10, .inr (2, [.ref (ad 11), .ref (ad 12), .ref (ad 13), .ref (ad 14)])),
  (ad 11, .inl (cZ, 168, .inl (zA (g_thr M)))),
  (ad 12, .inl (cI, 168, .inl (zA (g_res M)))),
  (ad 13, .inl (cI, 168, .inl (zA (g_cod M)))),
  (ad 14, .inl (cI, 168, .inl (zA (g_len M)))),
  (ad 15, .inr (0, [.ref (ad 1), .ref (ad 16), .ref (ad 17), .int (zI (g_nch Cc))])),
  (ad 16, .inl (cI, 24, .inl (zA (g_alt Cc)))),
  (ad 17, .inl (cZ, 24, .inl (zA (g_cho Cc)))),
  (ad 18, .inr (1, [.ref (ad 19), .ref (ad 20), .ref (ad 21), .int (zI (g_ev J)), .int (zI (g_sk J)), .int (zI (g_tc J)), .int (zI (g_fa J))])),
  (ad 19, .inl (cI, 1200, .inl (zA (g_fld J)))),
  (ad 20, .inl (cI, 600, .inl (zA (g_jco J)))),
  (ad 21, .inl (cI, 3, .inl (zA (g_rbs J)))),
  (ad 22, .inr (3, [.ref (ad 1), .ref (ad 10), .ref (ad 15), .ref (ad 18), .ref (ad 23), .ref (ad 24), .ref (ad 25), .int (zI (g_im Rr)), .int (zI (g_tm Rr)), .int (zI (g_ca Rr)), .int (zI (g_br Rr))])),
  (ad 23, .inl (cQ, 5, .inr (.inr (.inr (.inr (fun k => some (ad (26 + k)))))))),
  (ad 24, .inl (cI, 4, .inl (zA (g_pth Rr)))),
  (ad 25, .inl (cI, 24, .inl (zA (g_ins Rr)))),
  (ad 26, .inr (5, [.ref (ad 31), .int (zI (g_lz Ls 0)), .int (zI (g_lg Ls 0))])),
  (ad 27, .inr (5, [.ref (ad 32), .int (zI (g_lz Ls 1)), .int (zI (g_lg Ls 1))])),
  (ad 28, .inr (5, [.ref (ad 33), .int (zI (g_lz Ls 2)), .int (zI (g_lg Ls 2))])),
  (ad 29, .inr (5, [.ref (ad 34), .int (zI (g_lz Ls 3)), .int (zI (g_lg Ls 3))])),
  (ad 30, .inr (5, [.ref (ad 35), .int (zI (g_lz Ls 4)), .int (zI (g_lg Ls 4))])),
  (ad 31, .inl (cI, 4, .inl (zA (g_lc Ls 0)))),
  (ad 32, .inl (cI, 4, .inl (zA (g_lc Ls 1)))),
  (ad 33, .inl (cI, 4, .inl (zA (g_lc Ls 2)))),
  (ad 34, .inl (cI, 4, .inl (zA (g_lc Ls 3)))),
  (ad 35, .inl (cI, 4, .inl (zA (g_lc Ls 4))))]
def adL (ad : Nat → Nat) : List Nat := [ad 0, ad 1, ad 2, ad 3, ad 4, ad 5, ad 6, ad 7, ad 8, ad 9, ad 10, ad 11, ad 12, ad 13, ad 14, ad 15, ad 16, ad 17, ad 18, ad 19, ad 20, ad 21, ad 22, ad 23, ad 24, ad 25, ad 26, ad 27, ad 28, ad 29, ad 30, ad 31, ad 32, ad 33, ad 34, ad 35]
theorem wE_L {cI cZ cQ : ClassId} {ad : Nat → Nat} {T : TSt} {M : MSt} {Cc : CSt} {J : JSt} {Rr : RSt} {Ls : LSt} : (wE cI cZ cQ ad T M Cc J Rr Ls).map Prod.fst = (adL ad) := rfl
theorem wE_T {cI cZ cQ : ClassId} {ad : Nat → Nat} {T : TSt} {M : MSt} {Cc : CSt} {J : JSt} {Rr : RSt} {Ls : LSt} {v : Int} (hlv : 0 ≤ v ∧ v < 5) : (wE cI cZ cQ ad T M Cc J Rr Ls)[26 + v.toNat]? = some (ad (26 + v.toNat), .inr (5, [.ref (ad (31 + v.toNat)), .int (zI (g_lz Ls v)), .int (zI (g_lg Ls v))])) := by
  rcases (show v = 0 ∨ v = 1 ∨ v = 2 ∨ v = 3 ∨ v = 4 by omega) with rfl | rfl | rfl | rfl | rfl <;> rfl
theorem wE_A {cI cZ cQ : ClassId} {ad : Nat → Nat} {T : TSt} {M : MSt} {Cc : CSt} {J : JSt} {Rr : RSt} {Ls : LSt} {v : Int} (hlv : 0 ≤ v ∧ v < 5) : (wE cI cZ cQ ad T M Cc J Rr Ls)[31 + v.toNat]? = some (ad (31 + v.toNat), .inl (cI, 4, .inl (zA (g_lc Ls v)))) := by
  rcases (show v = 0 ∨ v = 1 ∨ v = 2 ∨ v = 3 ∨ v = 4 by omega) with rfl | rfl | rfl | rfl | rfl <;> rfl
theorem wE_T_lz {cI cZ cQ : ClassId} {ad : Nat → Nat} {T : TSt} {M : MSt} {Cc : CSt} {J : JSt} {Rr : RSt} {v : Int} (hlv : 0 ≤ v ∧ v < 5) {lc : Int → Int → Int} {lz lg : Int → Int} {x : Int} : (wE cI cZ cQ ad T M Cc J Rr (lc, lz, lg)).set (26 + v.toNat) (ad (26 + v.toNat), .inr (5, [.ref (ad (31 + v.toNat)), .int (zI (lz v)), .int (zI (lg v))].set 1 (.int (zI x)))) = wE cI cZ cQ ad T M Cc J Rr (lc, iup lz v x, lg) := by
  rcases (show v = 0 ∨ v = 1 ∨ v = 2 ∨ v = 3 ∨ v = 4 by omega) with rfl | rfl | rfl | rfl | rfl <;> rfl
theorem wE_T_lg {cI cZ cQ : ClassId} {ad : Nat → Nat} {T : TSt} {M : MSt} {Cc : CSt} {J : JSt} {Rr : RSt} {v : Int} (hlv : 0 ≤ v ∧ v < 5) {lc : Int → Int → Int} {lz lg : Int → Int} {x : Int} : (wE cI cZ cQ ad T M Cc J Rr (lc, lz, lg)).set (26 + v.toNat) (ad (26 + v.toNat), .inr (5, [.ref (ad (31 + v.toNat)), .int (zI (lz v)), .int (zI (lg v))].set 2 (.int (zI x)))) = wE cI cZ cQ ad T M Cc J Rr (lc, lz, iup lg v x) := by
  rcases (show v = 0 ∨ v = 1 ∨ v = 2 ∨ v = 3 ∨ v = 4 by omega) with rfl | rfl | rfl | rfl | rfl <;> rfl
theorem wE_A_lc {cI cZ cQ : ClassId} {ad : Nat → Nat} {T : TSt} {M : MSt} {Cc : CSt} {J : JSt} {Rr : RSt} {v : Int} (hlv : 0 ≤ v ∧ v < 5) {lc : Int → Int → Int} {lz lg : Int → Int} {x : Int} {j : Int} : (wE cI cZ cQ ad T M Cc J Rr (lc, lz, lg)).set (31 + v.toNat) (ad (31 + v.toNat), .inl (cI, 4, .inl (zA (iup (lc v) j x)))) = wE cI cZ cQ ad T M Cc J Rr (iup2 lc v j x, lz, lg) := by
  rcases (show v = 0 ∨ v = 1 ∨ v = 2 ∨ v = 3 ∨ v = 4 by omega) with rfl | rfl | rfl | rfl | rfl <;> rfl
section
variable {p : Program} {l : Launch} {e : Env} {R : Room} {s : State} {m : MethodId} {args : Array Value} {below : List Frame} {meth : Method} {c : Code} {H H0 : Heap} {locs : List Loc} {cells slots : Nat} {Q : State → Prop} {cc : ByteArray} {pc nL : Nat} {ls : Array Slot} {rest : List Value} {D : va_G} {cI cZ cQ : ClassId} {A : Nat → Prop} {own : String}
variable {ad : Nat → Nat} {T : TSt} {M : MSt} {Cc : CSt} {J : JSt} {Rr : RSt} {Ls : LSt}
variable {par : Int → Int} {dep : Int → Int} {ord : Int → Int} {tag : Int → Int} {dis : Int → Int} {shr : Int → Int} {rnd : Int → Int} {dln : Int → Int} {tsz : Int}
variable {thr : Int → Int} {res : Int → Int} {cod : Int → Int} {len : Int → Int}
variable {alt : Int → Int} {cho : Int → Int} {nch : Int}
variable {fld : Int → Int} {jco : Int → Int} {rbs : Int → Int} {ev : Int} {sk : Int} {tc : Int} {fa : Int}
variable {pth : Int → Int} {ins : Int → Int} {im : Int} {tm : Int} {ca : Int} {br : Int}
variable {lc : Int → Int → Int} {lz : Int → Int} {lg : Int → Int}
theorem gf_Choice_9 (C : CallFix p m c cc nL s args Wl R_Choice) (hK : KN D vwCl (tyE cI cZ cQ) s) (hE : EW D vwCl A (wE cI cZ cQ ad T M Cc J Rr Ls) H0 H locs) (hdg : decode cc pc = .ok (.getfield 9, 3)) (k : W p l e R s m args below meth c H locs cells slots Q (F0 m (pc + 3) ls (.ref (ad 1) :: rest))) : W p l e R s m args below meth c H locs cells slots Q (F0 m pc ls (.ref (ad 15) :: rest)) := by
  exact va_get (D := D) (ci := 0) (C := R_Choice) (T := F_Choice) (N := 4) C.1 C.2.1 C.2.2.2.2 in_Choice C.2.2.2.1 hK.1 hE.1 15 rfl rfl 0 (by decide) (C.2.2.2.2 _ fl_Choice_9) (fun _ h => h) rfl hdg k
theorem gf_Choice_15 (C : CallFix p m c cc nL s args Wl R_Choice) (hK : KN D vwCl (tyE cI cZ cQ) s) (hE : EW D vwCl A (wE cI cZ cQ ad T M Cc J Rr Ls) H0 H locs) (hdg : decode cc pc = .ok (.getfield 15, 3)) (k : W p l e R s m args below meth c H locs cells slots Q (F0 m (pc + 3) ls (.ref (ad 16) :: rest))) : W p l e R s m args below meth c H locs cells slots Q (F0 m pc ls (.ref (ad 15) :: rest)) := by
  exact va_get (D := D) (ci := 0) (C := R_Choice) (T := F_Choice) (N := 4) C.1 C.2.1 C.2.2.2.2 in_Choice C.2.2.2.1 hK.1 hE.1 15 rfl rfl 1 (by decide) (C.2.2.2.2 _ fl_Choice_15) (fun _ h => h) rfl hdg k
theorem gf_Choice_19 (C : CallFix p m c cc nL s args Wl R_Choice) (hK : KN D vwCl (tyE cI cZ cQ) s) (hE : EW D vwCl A (wE cI cZ cQ ad T M Cc J Rr Ls) H0 H locs) (hdg : decode cc pc = .ok (.getfield 19, 3)) (k : W p l e R s m args below meth c H locs cells slots Q (F0 m (pc + 3) ls (.ref (ad 17) :: rest))) : W p l e R s m args below meth c H locs cells slots Q (F0 m pc ls (.ref (ad 15) :: rest)) := by
  exact va_get (D := D) (ci := 0) (C := R_Choice) (T := F_Choice) (N := 4) C.1 C.2.1 C.2.2.2.2 in_Choice C.2.2.2.1 hK.1 hE.1 15 rfl rfl 2 (by decide) (C.2.2.2.2 _ fl_Choice_19) (fun _ h => h) rfl hdg k
theorem gf_Choice_26 (C : CallFix p m c cc nL s args Wl R_Choice) (hK : KN D vwCl (tyE cI cZ cQ) s) (hE : EW D vwCl A (wE cI cZ cQ ad T M Cc J Rr Ls) H0 H locs) {x : Int} (hv : g_nch Cc = x) (hdg : decode cc pc = .ok (.getfield 26, 3)) (k : W p l e R s m args below meth c H locs cells slots Q (F0 m (pc + 3) ls (.int (zI x) :: rest))) : W p l e R s m args below meth c H locs cells slots Q (F0 m pc ls (.ref (ad 15) :: rest)) := by
  subst hv
  exact va_get (D := D) (ci := 0) (C := R_Choice) (T := F_Choice) (N := 4) C.1 C.2.1 C.2.2.2.2 in_Choice C.2.2.2.1 hK.1 hE.1 15 rfl rfl 3 (by decide) (C.2.2.2.2 _ fl_Choice_26) (fun _ h => h) rfl hdg k
theorem gf_Engine_12 (C : CallFix p m c cc nL s args Wl R_Engine) (hK : KN D vwCl (tyE cI cZ cQ) s) (hE : EW D vwCl A (wE cI cZ cQ ad T M Cc J Rr Ls) H0 H locs) (hdg : decode cc pc = .ok (.getfield 12, 3)) (k : W p l e R s m args below meth c H locs cells slots Q (F0 m (pc + 3) ls (.ref (ad 1) :: rest))) : W p l e R s m args below meth c H locs cells slots Q (F0 m pc ls (.ref (ad 0) :: rest)) := by
  exact va_get (D := D) (ci := 6) (C := R_Engine) (T := F_Engine) (N := 5) C.1 C.2.1 C.2.2.2.2 in_Engine C.2.2.2.1 hK.1 hE.1 0 rfl rfl 0 (by decide) (C.2.2.2.2 _ fl_Engine_12) (fun _ h => h) rfl hdg k
theorem gf_Engine_19 (C : CallFix p m c cc nL s args Wl R_Engine) (hK : KN D vwCl (tyE cI cZ cQ) s) (hE : EW D vwCl A (wE cI cZ cQ ad T M Cc J Rr Ls) H0 H locs) (hdg : decode cc pc = .ok (.getfield 19, 3)) (k : W p l e R s m args below meth c H locs cells slots Q (F0 m (pc + 3) ls (.ref (ad 10) :: rest))) : W p l e R s m args below meth c H locs cells slots Q (F0 m pc ls (.ref (ad 0) :: rest)) := by
  exact va_get (D := D) (ci := 6) (C := R_Engine) (T := F_Engine) (N := 5) C.1 C.2.1 C.2.2.2.2 in_Engine C.2.2.2.1 hK.1 hE.1 0 rfl rfl 1 (by decide) (C.2.2.2.2 _ fl_Engine_19) (fun _ h => h) rfl hdg k
theorem gf_Engine_28 (C : CallFix p m c cc nL s args Wl R_Engine) (hK : KN D vwCl (tyE cI cZ cQ) s) (hE : EW D vwCl A (wE cI cZ cQ ad T M Cc J Rr Ls) H0 H locs) (hdg : decode cc pc = .ok (.getfield 28, 3)) (k : W p l e R s m args below meth c H locs cells slots Q (F0 m (pc + 3) ls (.ref (ad 15) :: rest))) : W p l e R s m args below meth c H locs cells slots Q (F0 m pc ls (.ref (ad 0) :: rest)) := by
  exact va_get (D := D) (ci := 6) (C := R_Engine) (T := F_Engine) (N := 5) C.1 C.2.1 C.2.2.2.2 in_Engine C.2.2.2.1 hK.1 hE.1 0 rfl rfl 2 (by decide) (C.2.2.2.2 _ fl_Engine_28) (fun _ h => h) rfl hdg k
theorem gf_Engine_35 (C : CallFix p m c cc nL s args Wl R_Engine) (hK : KN D vwCl (tyE cI cZ cQ) s) (hE : EW D vwCl A (wE cI cZ cQ ad T M Cc J Rr Ls) H0 H locs) (hdg : decode cc pc = .ok (.getfield 35, 3)) (k : W p l e R s m args below meth c H locs cells slots Q (F0 m (pc + 3) ls (.ref (ad 18) :: rest))) : W p l e R s m args below meth c H locs cells slots Q (F0 m pc ls (.ref (ad 0) :: rest)) := by
  exact va_get (D := D) (ci := 6) (C := R_Engine) (T := F_Engine) (N := 5) C.1 C.2.1 C.2.2.2.2 in_Engine C.2.2.2.1 hK.1 hE.1 0 rfl rfl 3 (by decide) (C.2.2.2.2 _ fl_Engine_35) (fun _ h => h) rfl hdg k
theorem gf_Engine_44 (C : CallFix p m c cc nL s args Wl R_Engine) (hK : KN D vwCl (tyE cI cZ cQ) s) (hE : EW D vwCl A (wE cI cZ cQ ad T M Cc J Rr Ls) H0 H locs) (hdg : decode cc pc = .ok (.getfield 44, 3)) (k : W p l e R s m args below meth c H locs cells slots Q (F0 m (pc + 3) ls (.ref (ad 22) :: rest))) : W p l e R s m args below meth c H locs cells slots Q (F0 m pc ls (.ref (ad 0) :: rest)) := by
  exact va_get (D := D) (ci := 6) (C := R_Engine) (T := F_Engine) (N := 5) C.1 C.2.1 C.2.2.2.2 in_Engine C.2.2.2.1 hK.1 hE.1 0 rfl rfl 4 (by decide) (C.2.2.2.2 _ fl_Engine_44) (fun _ h => h) rfl hdg k
theorem gf_Journal_9 (C : CallFix p m c cc nL s args Wl R_Journal) (hK : KN D vwCl (tyE cI cZ cQ) s) (hE : EW D vwCl A (wE cI cZ cQ ad T M Cc J Rr Ls) H0 H locs) (hdg : decode cc pc = .ok (.getfield 9, 3)) (k : W p l e R s m args below meth c H locs cells slots Q (F0 m (pc + 3) ls (.ref (ad 19) :: rest))) : W p l e R s m args below meth c H locs cells slots Q (F0 m pc ls (.ref (ad 18) :: rest)) := by
  exact va_get (D := D) (ci := 1) (C := R_Journal) (T := F_Journal) (N := 7) C.1 C.2.1 C.2.2.2.2 in_Journal C.2.2.2.1 hK.1 hE.1 18 rfl rfl 0 (by decide) (C.2.2.2.2 _ fl_Journal_9) (fun _ h => h) rfl hdg k
theorem gf_Journal_15 (C : CallFix p m c cc nL s args Wl R_Journal) (hK : KN D vwCl (tyE cI cZ cQ) s) (hE : EW D vwCl A (wE cI cZ cQ ad T M Cc J Rr Ls) H0 H locs) (hdg : decode cc pc = .ok (.getfield 15, 3)) (k : W p l e R s m args below meth c H locs cells slots Q (F0 m (pc + 3) ls (.ref (ad 20) :: rest))) : W p l e R s m args below meth c H locs cells slots Q (F0 m pc ls (.ref (ad 18) :: rest)) := by
  exact va_get (D := D) (ci := 1) (C := R_Journal) (T := F_Journal) (N := 7) C.1 C.2.1 C.2.2.2.2 in_Journal C.2.2.2.1 hK.1 hE.1 18 rfl rfl 1 (by decide) (C.2.2.2.2 _ fl_Journal_15) (fun _ h => h) rfl hdg k
theorem gf_Journal_18 (C : CallFix p m c cc nL s args Wl R_Journal) (hK : KN D vwCl (tyE cI cZ cQ) s) (hE : EW D vwCl A (wE cI cZ cQ ad T M Cc J Rr Ls) H0 H locs) (hdg : decode cc pc = .ok (.getfield 18, 3)) (k : W p l e R s m args below meth c H locs cells slots Q (F0 m (pc + 3) ls (.ref (ad 21) :: rest))) : W p l e R s m args below meth c H locs cells slots Q (F0 m pc ls (.ref (ad 18) :: rest)) := by
  exact va_get (D := D) (ci := 1) (C := R_Journal) (T := F_Journal) (N := 7) C.1 C.2.1 C.2.2.2.2 in_Journal C.2.2.2.1 hK.1 hE.1 18 rfl rfl 2 (by decide) (C.2.2.2.2 _ fl_Journal_18) (fun _ h => h) rfl hdg k
theorem gf_Journal_21 (C : CallFix p m c cc nL s args Wl R_Journal) (hK : KN D vwCl (tyE cI cZ cQ) s) (hE : EW D vwCl A (wE cI cZ cQ ad T M Cc J Rr Ls) H0 H locs) {x : Int} (hv : g_ev J = x) (hdg : decode cc pc = .ok (.getfield 21, 3)) (k : W p l e R s m args below meth c H locs cells slots Q (F0 m (pc + 3) ls (.int (zI x) :: rest))) : W p l e R s m args below meth c H locs cells slots Q (F0 m pc ls (.ref (ad 18) :: rest)) := by
  subst hv
  exact va_get (D := D) (ci := 1) (C := R_Journal) (T := F_Journal) (N := 7) C.1 C.2.1 C.2.2.2.2 in_Journal C.2.2.2.1 hK.1 hE.1 18 rfl rfl 3 (by decide) (C.2.2.2.2 _ fl_Journal_21) (fun _ h => h) rfl hdg k
theorem gf_Journal_25 (C : CallFix p m c cc nL s args Wl R_Journal) (hK : KN D vwCl (tyE cI cZ cQ) s) (hE : EW D vwCl A (wE cI cZ cQ ad T M Cc J Rr Ls) H0 H locs) {x : Int} (hv : g_sk J = x) (hdg : decode cc pc = .ok (.getfield 25, 3)) (k : W p l e R s m args below meth c H locs cells slots Q (F0 m (pc + 3) ls (.int (zI x) :: rest))) : W p l e R s m args below meth c H locs cells slots Q (F0 m pc ls (.ref (ad 18) :: rest)) := by
  subst hv
  exact va_get (D := D) (ci := 1) (C := R_Journal) (T := F_Journal) (N := 7) C.1 C.2.1 C.2.2.2.2 in_Journal C.2.2.2.1 hK.1 hE.1 18 rfl rfl 4 (by decide) (C.2.2.2.2 _ fl_Journal_25) (fun _ h => h) rfl hdg k
theorem gf_Journal_28 (C : CallFix p m c cc nL s args Wl R_Journal) (hK : KN D vwCl (tyE cI cZ cQ) s) (hE : EW D vwCl A (wE cI cZ cQ ad T M Cc J Rr Ls) H0 H locs) {x : Int} (hv : g_tc J = x) (hdg : decode cc pc = .ok (.getfield 28, 3)) (k : W p l e R s m args below meth c H locs cells slots Q (F0 m (pc + 3) ls (.int (zI x) :: rest))) : W p l e R s m args below meth c H locs cells slots Q (F0 m pc ls (.ref (ad 18) :: rest)) := by
  subst hv
  exact va_get (D := D) (ci := 1) (C := R_Journal) (T := F_Journal) (N := 7) C.1 C.2.1 C.2.2.2.2 in_Journal C.2.2.2.1 hK.1 hE.1 18 rfl rfl 5 (by decide) (C.2.2.2.2 _ fl_Journal_28) (fun _ h => h) rfl hdg k
theorem gf_Journal_31 (C : CallFix p m c cc nL s args Wl R_Journal) (hK : KN D vwCl (tyE cI cZ cQ) s) (hE : EW D vwCl A (wE cI cZ cQ ad T M Cc J Rr Ls) H0 H locs) {x : Int} (hv : g_fa J = x) (hdg : decode cc pc = .ok (.getfield 31, 3)) (k : W p l e R s m args below meth c H locs cells slots Q (F0 m (pc + 3) ls (.int (zI x) :: rest))) : W p l e R s m args below meth c H locs cells slots Q (F0 m pc ls (.ref (ad 18) :: rest)) := by
  subst hv
  exact va_get (D := D) (ci := 1) (C := R_Journal) (T := F_Journal) (N := 7) C.1 C.2.1 C.2.2.2.2 in_Journal C.2.2.2.1 hK.1 hE.1 18 rfl rfl 6 (by decide) (C.2.2.2.2 _ fl_Journal_31) (fun _ h => h) rfl hdg k
theorem gf_Methods_9 (C : CallFix p m c cc nL s args Wl R_Methods) (hK : KN D vwCl (tyE cI cZ cQ) s) (hE : EW D vwCl A (wE cI cZ cQ ad T M Cc J Rr Ls) H0 H locs) (hdg : decode cc pc = .ok (.getfield 9, 3)) (k : W p l e R s m args below meth c H locs cells slots Q (F0 m (pc + 3) ls (.ref (ad 11) :: rest))) : W p l e R s m args below meth c H locs cells slots Q (F0 m pc ls (.ref (ad 10) :: rest)) := by
  exact va_get (D := D) (ci := 2) (C := R_Methods) (T := F_Methods) (N := 4) C.1 C.2.1 C.2.2.2.2 in_Methods C.2.2.2.1 hK.1 hE.1 10 rfl rfl 0 (by decide) (C.2.2.2.2 _ fl_Methods_9) (fun _ h => h) rfl hdg k
theorem gf_Methods_15 (C : CallFix p m c cc nL s args Wl R_Methods) (hK : KN D vwCl (tyE cI cZ cQ) s) (hE : EW D vwCl A (wE cI cZ cQ ad T M Cc J Rr Ls) H0 H locs) (hdg : decode cc pc = .ok (.getfield 15, 3)) (k : W p l e R s m args below meth c H locs cells slots Q (F0 m (pc + 3) ls (.ref (ad 12) :: rest))) : W p l e R s m args below meth c H locs cells slots Q (F0 m pc ls (.ref (ad 10) :: rest)) := by
  exact va_get (D := D) (ci := 2) (C := R_Methods) (T := F_Methods) (N := 4) C.1 C.2.1 C.2.2.2.2 in_Methods C.2.2.2.1 hK.1 hE.1 10 rfl rfl 1 (by decide) (C.2.2.2.2 _ fl_Methods_15) (fun _ h => h) rfl hdg k
theorem gf_Methods_19 (C : CallFix p m c cc nL s args Wl R_Methods) (hK : KN D vwCl (tyE cI cZ cQ) s) (hE : EW D vwCl A (wE cI cZ cQ ad T M Cc J Rr Ls) H0 H locs) (hdg : decode cc pc = .ok (.getfield 19, 3)) (k : W p l e R s m args below meth c H locs cells slots Q (F0 m (pc + 3) ls (.ref (ad 13) :: rest))) : W p l e R s m args below meth c H locs cells slots Q (F0 m pc ls (.ref (ad 10) :: rest)) := by
  exact va_get (D := D) (ci := 2) (C := R_Methods) (T := F_Methods) (N := 4) C.1 C.2.1 C.2.2.2.2 in_Methods C.2.2.2.1 hK.1 hE.1 10 rfl rfl 2 (by decide) (C.2.2.2.2 _ fl_Methods_19) (fun _ h => h) rfl hdg k
theorem gf_Methods_22 (C : CallFix p m c cc nL s args Wl R_Methods) (hK : KN D vwCl (tyE cI cZ cQ) s) (hE : EW D vwCl A (wE cI cZ cQ ad T M Cc J Rr Ls) H0 H locs) (hdg : decode cc pc = .ok (.getfield 22, 3)) (k : W p l e R s m args below meth c H locs cells slots Q (F0 m (pc + 3) ls (.ref (ad 14) :: rest))) : W p l e R s m args below meth c H locs cells slots Q (F0 m pc ls (.ref (ad 10) :: rest)) := by
  exact va_get (D := D) (ci := 2) (C := R_Methods) (T := F_Methods) (N := 4) C.1 C.2.1 C.2.2.2.2 in_Methods C.2.2.2.1 hK.1 hE.1 10 rfl rfl 3 (by decide) (C.2.2.2.2 _ fl_Methods_22) (fun _ h => h) rfl hdg k
theorem gf_Runner_9 (C : CallFix p m c cc nL s args Wl R_Runner) (hK : KN D vwCl (tyE cI cZ cQ) s) (hE : EW D vwCl A (wE cI cZ cQ ad T M Cc J Rr Ls) H0 H locs) (hdg : decode cc pc = .ok (.getfield 9, 3)) (k : W p l e R s m args below meth c H locs cells slots Q (F0 m (pc + 3) ls (.ref (ad 1) :: rest))) : W p l e R s m args below meth c H locs cells slots Q (F0 m pc ls (.ref (ad 22) :: rest)) := by
  exact va_get (D := D) (ci := 3) (C := R_Runner) (T := F_Runner) (N := 11) C.1 C.2.1 C.2.2.2.2 in_Runner C.2.2.2.1 hK.1 hE.1 22 rfl rfl 0 (by decide) (C.2.2.2.2 _ fl_Runner_9) (fun _ h => h) rfl hdg k
theorem gf_Runner_15 (C : CallFix p m c cc nL s args Wl R_Runner) (hK : KN D vwCl (tyE cI cZ cQ) s) (hE : EW D vwCl A (wE cI cZ cQ ad T M Cc J Rr Ls) H0 H locs) (hdg : decode cc pc = .ok (.getfield 15, 3)) (k : W p l e R s m args below meth c H locs cells slots Q (F0 m (pc + 3) ls (.ref (ad 10) :: rest))) : W p l e R s m args below meth c H locs cells slots Q (F0 m pc ls (.ref (ad 22) :: rest)) := by
  exact va_get (D := D) (ci := 3) (C := R_Runner) (T := F_Runner) (N := 11) C.1 C.2.1 C.2.2.2.2 in_Runner C.2.2.2.1 hK.1 hE.1 22 rfl rfl 1 (by decide) (C.2.2.2.2 _ fl_Runner_15) (fun _ h => h) rfl hdg k
theorem gf_Runner_19 (C : CallFix p m c cc nL s args Wl R_Runner) (hK : KN D vwCl (tyE cI cZ cQ) s) (hE : EW D vwCl A (wE cI cZ cQ ad T M Cc J Rr Ls) H0 H locs) (hdg : decode cc pc = .ok (.getfield 19, 3)) (k : W p l e R s m args below meth c H locs cells slots Q (F0 m (pc + 3) ls (.ref (ad 15) :: rest))) : W p l e R s m args below meth c H locs cells slots Q (F0 m pc ls (.ref (ad 22) :: rest)) := by
  exact va_get (D := D) (ci := 3) (C := R_Runner) (T := F_Runner) (N := 11) C.1 C.2.1 C.2.2.2.2 in_Runner C.2.2.2.1 hK.1 hE.1 22 rfl rfl 2 (by decide) (C.2.2.2.2 _ fl_Runner_19) (fun _ h => h) rfl hdg k
theorem gf_Runner_23 (C : CallFix p m c cc nL s args Wl R_Runner) (hK : KN D vwCl (tyE cI cZ cQ) s) (hE : EW D vwCl A (wE cI cZ cQ ad T M Cc J Rr Ls) H0 H locs) (hdg : decode cc pc = .ok (.getfield 23, 3)) (k : W p l e R s m args below meth c H locs cells slots Q (F0 m (pc + 3) ls (.ref (ad 18) :: rest))) : W p l e R s m args below meth c H locs cells slots Q (F0 m pc ls (.ref (ad 22) :: rest)) := by
  exact va_get (D := D) (ci := 3) (C := R_Runner) (T := F_Runner) (N := 11) C.1 C.2.1 C.2.2.2.2 in_Runner C.2.2.2.1 hK.1 hE.1 22 rfl rfl 3 (by decide) (C.2.2.2.2 _ fl_Runner_23) (fun _ h => h) rfl hdg k
theorem gf_Runner_29 (C : CallFix p m c cc nL s args Wl R_Runner) (hK : KN D vwCl (tyE cI cZ cQ) s) (hE : EW D vwCl A (wE cI cZ cQ ad T M Cc J Rr Ls) H0 H locs) (hdg : decode cc pc = .ok (.getfield 29, 3)) (k : W p l e R s m args below meth c H locs cells slots Q (F0 m (pc + 3) ls (.ref (ad 23) :: rest))) : W p l e R s m args below meth c H locs cells slots Q (F0 m pc ls (.ref (ad 22) :: rest)) := by
  exact va_get (D := D) (ci := 3) (C := R_Runner) (T := F_Runner) (N := 11) C.1 C.2.1 C.2.2.2.2 in_Runner C.2.2.2.1 hK.1 hE.1 22 rfl rfl 4 (by decide) (C.2.2.2.2 _ fl_Runner_29) (fun _ h => h) rfl hdg k
theorem gf_Runner_34 (C : CallFix p m c cc nL s args Wl R_Runner) (hK : KN D vwCl (tyE cI cZ cQ) s) (hE : EW D vwCl A (wE cI cZ cQ ad T M Cc J Rr Ls) H0 H locs) (hdg : decode cc pc = .ok (.getfield 34, 3)) (k : W p l e R s m args below meth c H locs cells slots Q (F0 m (pc + 3) ls (.ref (ad 24) :: rest))) : W p l e R s m args below meth c H locs cells slots Q (F0 m pc ls (.ref (ad 22) :: rest)) := by
  exact va_get (D := D) (ci := 3) (C := R_Runner) (T := F_Runner) (N := 11) C.1 C.2.1 C.2.2.2.2 in_Runner C.2.2.2.1 hK.1 hE.1 22 rfl rfl 5 (by decide) (C.2.2.2.2 _ fl_Runner_34) (fun _ h => h) rfl hdg k
theorem gf_Runner_38 (C : CallFix p m c cc nL s args Wl R_Runner) (hK : KN D vwCl (tyE cI cZ cQ) s) (hE : EW D vwCl A (wE cI cZ cQ ad T M Cc J Rr Ls) H0 H locs) (hdg : decode cc pc = .ok (.getfield 38, 3)) (k : W p l e R s m args below meth c H locs cells slots Q (F0 m (pc + 3) ls (.ref (ad 25) :: rest))) : W p l e R s m args below meth c H locs cells slots Q (F0 m pc ls (.ref (ad 22) :: rest)) := by
  exact va_get (D := D) (ci := 3) (C := R_Runner) (T := F_Runner) (N := 11) C.1 C.2.1 C.2.2.2.2 in_Runner C.2.2.2.1 hK.1 hE.1 22 rfl rfl 6 (by decide) (C.2.2.2.2 _ fl_Runner_38) (fun _ h => h) rfl hdg k
theorem gf_Runner_41 (C : CallFix p m c cc nL s args Wl R_Runner) (hK : KN D vwCl (tyE cI cZ cQ) s) (hE : EW D vwCl A (wE cI cZ cQ ad T M Cc J Rr Ls) H0 H locs) {x : Int} (hv : g_im Rr = x) (hdg : decode cc pc = .ok (.getfield 41, 3)) (k : W p l e R s m args below meth c H locs cells slots Q (F0 m (pc + 3) ls (.int (zI x) :: rest))) : W p l e R s m args below meth c H locs cells slots Q (F0 m pc ls (.ref (ad 22) :: rest)) := by
  subst hv
  exact va_get (D := D) (ci := 3) (C := R_Runner) (T := F_Runner) (N := 11) C.1 C.2.1 C.2.2.2.2 in_Runner C.2.2.2.1 hK.1 hE.1 22 rfl rfl 7 (by decide) (C.2.2.2.2 _ fl_Runner_41) (fun _ h => h) rfl hdg k
theorem gf_Runner_45 (C : CallFix p m c cc nL s args Wl R_Runner) (hK : KN D vwCl (tyE cI cZ cQ) s) (hE : EW D vwCl A (wE cI cZ cQ ad T M Cc J Rr Ls) H0 H locs) {x : Int} (hv : g_tm Rr = x) (hdg : decode cc pc = .ok (.getfield 45, 3)) (k : W p l e R s m args below meth c H locs cells slots Q (F0 m (pc + 3) ls (.int (zI x) :: rest))) : W p l e R s m args below meth c H locs cells slots Q (F0 m pc ls (.ref (ad 22) :: rest)) := by
  subst hv
  exact va_get (D := D) (ci := 3) (C := R_Runner) (T := F_Runner) (N := 11) C.1 C.2.1 C.2.2.2.2 in_Runner C.2.2.2.1 hK.1 hE.1 22 rfl rfl 8 (by decide) (C.2.2.2.2 _ fl_Runner_45) (fun _ h => h) rfl hdg k
theorem gf_Runner_48 (C : CallFix p m c cc nL s args Wl R_Runner) (hK : KN D vwCl (tyE cI cZ cQ) s) (hE : EW D vwCl A (wE cI cZ cQ ad T M Cc J Rr Ls) H0 H locs) {x : Int} (hv : g_ca Rr = x) (hdg : decode cc pc = .ok (.getfield 48, 3)) (k : W p l e R s m args below meth c H locs cells slots Q (F0 m (pc + 3) ls (.int (zI x) :: rest))) : W p l e R s m args below meth c H locs cells slots Q (F0 m pc ls (.ref (ad 22) :: rest)) := by
  subst hv
  exact va_get (D := D) (ci := 3) (C := R_Runner) (T := F_Runner) (N := 11) C.1 C.2.1 C.2.2.2.2 in_Runner C.2.2.2.1 hK.1 hE.1 22 rfl rfl 9 (by decide) (C.2.2.2.2 _ fl_Runner_48) (fun _ h => h) rfl hdg k
theorem gf_Runner_51 (C : CallFix p m c cc nL s args Wl R_Runner) (hK : KN D vwCl (tyE cI cZ cQ) s) (hE : EW D vwCl A (wE cI cZ cQ ad T M Cc J Rr Ls) H0 H locs) {x : Int} (hv : g_br Rr = x) (hdg : decode cc pc = .ok (.getfield 51, 3)) (k : W p l e R s m args below meth c H locs cells slots Q (F0 m (pc + 3) ls (.int (zI x) :: rest))) : W p l e R s m args below meth c H locs cells slots Q (F0 m pc ls (.ref (ad 22) :: rest)) := by
  subst hv
  exact va_get (D := D) (ci := 3) (C := R_Runner) (T := F_Runner) (N := 11) C.1 C.2.1 C.2.2.2.2 in_Runner C.2.2.2.1 hK.1 hE.1 22 rfl rfl 10 (by decide) (C.2.2.2.2 _ fl_Runner_51) (fun _ h => h) rfl hdg k
theorem gf_Tree_9 (C : CallFix p m c cc nL s args Wl R_Tree) (hK : KN D vwCl (tyE cI cZ cQ) s) (hE : EW D vwCl A (wE cI cZ cQ ad T M Cc J Rr Ls) H0 H locs) (hdg : decode cc pc = .ok (.getfield 9, 3)) (k : W p l e R s m args below meth c H locs cells slots Q (F0 m (pc + 3) ls (.ref (ad 2) :: rest))) : W p l e R s m args below meth c H locs cells slots Q (F0 m pc ls (.ref (ad 1) :: rest)) := by
  exact va_get (D := D) (ci := 4) (C := R_Tree) (T := F_Tree) (N := 9) C.1 C.2.1 C.2.2.2.2 in_Tree C.2.2.2.1 hK.1 hE.1 1 rfl rfl 0 (by decide) (C.2.2.2.2 _ fl_Tree_9) (fun _ h => h) rfl hdg k
theorem gf_Tree_15 (C : CallFix p m c cc nL s args Wl R_Tree) (hK : KN D vwCl (tyE cI cZ cQ) s) (hE : EW D vwCl A (wE cI cZ cQ ad T M Cc J Rr Ls) H0 H locs) (hdg : decode cc pc = .ok (.getfield 15, 3)) (k : W p l e R s m args below meth c H locs cells slots Q (F0 m (pc + 3) ls (.ref (ad 3) :: rest))) : W p l e R s m args below meth c H locs cells slots Q (F0 m pc ls (.ref (ad 1) :: rest)) := by
  exact va_get (D := D) (ci := 4) (C := R_Tree) (T := F_Tree) (N := 9) C.1 C.2.1 C.2.2.2.2 in_Tree C.2.2.2.1 hK.1 hE.1 1 rfl rfl 1 (by decide) (C.2.2.2.2 _ fl_Tree_15) (fun _ h => h) rfl hdg k
theorem gf_Tree_18 (C : CallFix p m c cc nL s args Wl R_Tree) (hK : KN D vwCl (tyE cI cZ cQ) s) (hE : EW D vwCl A (wE cI cZ cQ ad T M Cc J Rr Ls) H0 H locs) (hdg : decode cc pc = .ok (.getfield 18, 3)) (k : W p l e R s m args below meth c H locs cells slots Q (F0 m (pc + 3) ls (.ref (ad 4) :: rest))) : W p l e R s m args below meth c H locs cells slots Q (F0 m pc ls (.ref (ad 1) :: rest)) := by
  exact va_get (D := D) (ci := 4) (C := R_Tree) (T := F_Tree) (N := 9) C.1 C.2.1 C.2.2.2.2 in_Tree C.2.2.2.1 hK.1 hE.1 1 rfl rfl 2 (by decide) (C.2.2.2.2 _ fl_Tree_18) (fun _ h => h) rfl hdg k
theorem gf_Tree_21 (C : CallFix p m c cc nL s args Wl R_Tree) (hK : KN D vwCl (tyE cI cZ cQ) s) (hE : EW D vwCl A (wE cI cZ cQ ad T M Cc J Rr Ls) H0 H locs) (hdg : decode cc pc = .ok (.getfield 21, 3)) (k : W p l e R s m args below meth c H locs cells slots Q (F0 m (pc + 3) ls (.ref (ad 5) :: rest))) : W p l e R s m args below meth c H locs cells slots Q (F0 m pc ls (.ref (ad 1) :: rest)) := by
  exact va_get (D := D) (ci := 4) (C := R_Tree) (T := F_Tree) (N := 9) C.1 C.2.1 C.2.2.2.2 in_Tree C.2.2.2.1 hK.1 hE.1 1 rfl rfl 3 (by decide) (C.2.2.2.2 _ fl_Tree_21) (fun _ h => h) rfl hdg k
theorem gf_Tree_24 (C : CallFix p m c cc nL s args Wl R_Tree) (hK : KN D vwCl (tyE cI cZ cQ) s) (hE : EW D vwCl A (wE cI cZ cQ ad T M Cc J Rr Ls) H0 H locs) (hdg : decode cc pc = .ok (.getfield 24, 3)) (k : W p l e R s m args below meth c H locs cells slots Q (F0 m (pc + 3) ls (.ref (ad 6) :: rest))) : W p l e R s m args below meth c H locs cells slots Q (F0 m pc ls (.ref (ad 1) :: rest)) := by
  exact va_get (D := D) (ci := 4) (C := R_Tree) (T := F_Tree) (N := 9) C.1 C.2.1 C.2.2.2.2 in_Tree C.2.2.2.1 hK.1 hE.1 1 rfl rfl 4 (by decide) (C.2.2.2.2 _ fl_Tree_24) (fun _ h => h) rfl hdg k
theorem gf_Tree_28 (C : CallFix p m c cc nL s args Wl R_Tree) (hK : KN D vwCl (tyE cI cZ cQ) s) (hE : EW D vwCl A (wE cI cZ cQ ad T M Cc J Rr Ls) H0 H locs) (hdg : decode cc pc = .ok (.getfield 28, 3)) (k : W p l e R s m args below meth c H locs cells slots Q (F0 m (pc + 3) ls (.ref (ad 7) :: rest))) : W p l e R s m args below meth c H locs cells slots Q (F0 m pc ls (.ref (ad 1) :: rest)) := by
  exact va_get (D := D) (ci := 4) (C := R_Tree) (T := F_Tree) (N := 9) C.1 C.2.1 C.2.2.2.2 in_Tree C.2.2.2.1 hK.1 hE.1 1 rfl rfl 5 (by decide) (C.2.2.2.2 _ fl_Tree_28) (fun _ h => h) rfl hdg k
theorem gf_Tree_31 (C : CallFix p m c cc nL s args Wl R_Tree) (hK : KN D vwCl (tyE cI cZ cQ) s) (hE : EW D vwCl A (wE cI cZ cQ ad T M Cc J Rr Ls) H0 H locs) (hdg : decode cc pc = .ok (.getfield 31, 3)) (k : W p l e R s m args below meth c H locs cells slots Q (F0 m (pc + 3) ls (.ref (ad 8) :: rest))) : W p l e R s m args below meth c H locs cells slots Q (F0 m pc ls (.ref (ad 1) :: rest)) := by
  exact va_get (D := D) (ci := 4) (C := R_Tree) (T := F_Tree) (N := 9) C.1 C.2.1 C.2.2.2.2 in_Tree C.2.2.2.1 hK.1 hE.1 1 rfl rfl 6 (by decide) (C.2.2.2.2 _ fl_Tree_31) (fun _ h => h) rfl hdg k
theorem gf_Tree_34 (C : CallFix p m c cc nL s args Wl R_Tree) (hK : KN D vwCl (tyE cI cZ cQ) s) (hE : EW D vwCl A (wE cI cZ cQ ad T M Cc J Rr Ls) H0 H locs) (hdg : decode cc pc = .ok (.getfield 34, 3)) (k : W p l e R s m args below meth c H locs cells slots Q (F0 m (pc + 3) ls (.ref (ad 9) :: rest))) : W p l e R s m args below meth c H locs cells slots Q (F0 m pc ls (.ref (ad 1) :: rest)) := by
  exact va_get (D := D) (ci := 4) (C := R_Tree) (T := F_Tree) (N := 9) C.1 C.2.1 C.2.2.2.2 in_Tree C.2.2.2.1 hK.1 hE.1 1 rfl rfl 7 (by decide) (C.2.2.2.2 _ fl_Tree_34) (fun _ h => h) rfl hdg k
theorem gf_Tree_37 (C : CallFix p m c cc nL s args Wl R_Tree) (hK : KN D vwCl (tyE cI cZ cQ) s) (hE : EW D vwCl A (wE cI cZ cQ ad T M Cc J Rr Ls) H0 H locs) {x : Int} (hv : g_tsz T = x) (hdg : decode cc pc = .ok (.getfield 37, 3)) (k : W p l e R s m args below meth c H locs cells slots Q (F0 m (pc + 3) ls (.int (zI x) :: rest))) : W p l e R s m args below meth c H locs cells slots Q (F0 m pc ls (.ref (ad 1) :: rest)) := by
  subst hv
  exact va_get (D := D) (ci := 4) (C := R_Tree) (T := F_Tree) (N := 9) C.1 C.2.1 C.2.2.2.2 in_Tree C.2.2.2.1 hK.1 hE.1 1 rfl rfl 8 (by decide) (C.2.2.2.2 _ fl_Tree_37) (fun _ h => h) rfl hdg k
theorem gf_Troubles_9 (C : CallFix p m c cc nL s args Wl R_Troubles) (hK : KN D vwCl (tyE cI cZ cQ) s) {v : Int} (hlv : 0 ≤ v ∧ v < 5) (hE : EW D vwCl A (wE cI cZ cQ ad T M Cc J Rr Ls) H0 H locs) (hdg : decode cc pc = .ok (.getfield 9, 3)) (k : W p l e R s m args below meth c H locs cells slots Q (F0 m (pc + 3) ls (.ref (ad (31 + v.toNat)) :: rest))) : W p l e R s m args below meth c H locs cells slots Q (F0 m pc ls (.ref (ad (26 + v.toNat)) :: rest)) := by
  exact va_get (D := D) (ci := 5) (C := R_Troubles) (T := F_Troubles) (N := 3) C.1 C.2.1 C.2.2.2.2 in_Troubles C.2.2.2.1 hK.1 hE.1 (26 + v.toNat) (wE_T hlv) rfl 0 (by decide) (C.2.2.2.2 _ fl_Troubles_9) (fun _ h => h) rfl hdg k
theorem gf_Troubles_15 (C : CallFix p m c cc nL s args Wl R_Troubles) (hK : KN D vwCl (tyE cI cZ cQ) s) {v : Int} (hlv : 0 ≤ v ∧ v < 5) (hE : EW D vwCl A (wE cI cZ cQ ad T M Cc J Rr Ls) H0 H locs) {x : Int} (hv : g_lz Ls v = x) (hdg : decode cc pc = .ok (.getfield 15, 3)) (k : W p l e R s m args below meth c H locs cells slots Q (F0 m (pc + 3) ls (.int (zI x) :: rest))) : W p l e R s m args below meth c H locs cells slots Q (F0 m pc ls (.ref (ad (26 + v.toNat)) :: rest)) := by
  subst hv
  exact va_get (D := D) (ci := 5) (C := R_Troubles) (T := F_Troubles) (N := 3) C.1 C.2.1 C.2.2.2.2 in_Troubles C.2.2.2.1 hK.1 hE.1 (26 + v.toNat) (wE_T hlv) rfl 1 (by decide) (C.2.2.2.2 _ fl_Troubles_15) (fun _ h => h) rfl hdg k
theorem gf_Troubles_19 (C : CallFix p m c cc nL s args Wl R_Troubles) (hK : KN D vwCl (tyE cI cZ cQ) s) {v : Int} (hlv : 0 ≤ v ∧ v < 5) (hE : EW D vwCl A (wE cI cZ cQ ad T M Cc J Rr Ls) H0 H locs) {x : Int} (hv : g_lg Ls v = x) (hdg : decode cc pc = .ok (.getfield 19, 3)) (k : W p l e R s m args below meth c H locs cells slots Q (F0 m (pc + 3) ls (.int (zI x) :: rest))) : W p l e R s m args below meth c H locs cells slots Q (F0 m pc ls (.ref (ad (26 + v.toNat)) :: rest)) := by
  subst hv
  exact va_get (D := D) (ci := 5) (C := R_Troubles) (T := F_Troubles) (N := 3) C.1 C.2.1 C.2.2.2.2 in_Troubles C.2.2.2.1 hK.1 hE.1 (26 + v.toNat) (wE_T hlv) rfl 2 (by decide) (C.2.2.2.2 _ fl_Troubles_19) (fun _ h => h) rfl hdg k
theorem pf_Choice_26 (C : CallFix p m c cc nL s args Wl R_Choice) (hK : KN D vwCl (tyE cI cZ cQ) s) (hE : EW D vwCl A (wE cI cZ cQ ad T M (alt, cho, nch) J Rr Ls) H0 H locs) {x : Int} (hdg : decode cc pc = .ok (.putfield 26, 3)) (k : ∀ (H1 : Heap) (locs1 : List Loc), EW D vwCl A (wE cI cZ cQ ad T M (alt, cho, x) J Rr Ls) H0 H1 locs1 → W p l e R s m args below meth c H1 locs1 cells slots Q (F0 m (pc + 3) ls rest)) : W p l e R s m args below meth c H locs cells slots Q (F0 m pc ls (.int (zI x) :: .ref (ad 15) :: rest)) :=
  va_put (D := D) (ci := 0) (v := .int (zI x)) (ty := .int) (C := R_Choice) (T := F_Choice) (N := 4) C.1 C.2.1 C.2.2.2.2 in_Choice t_Choice t_Choice_ok n_Choice C.2.2.2.1 hK.1 hE.1 hE.2.1 hE.2.2 15 rfl rfl 3 (by decide) (C.2.2.2.2 _ fl_Choice_26) (fun _ h => h) rfl (by decide +kernel) rfl rfl (Nat.le_of_ble_eq_true rfl) hdg (fun H1 locs1 hP hD hS => k H1 locs1 ⟨hP, hD, hS⟩)
theorem pf_Journal_21 (C : CallFix p m c cc nL s args Wl R_Journal) (hK : KN D vwCl (tyE cI cZ cQ) s) (hE : EW D vwCl A (wE cI cZ cQ ad T M Cc (fld, jco, rbs, ev, sk, tc, fa) Rr Ls) H0 H locs) {x : Int} (hdg : decode cc pc = .ok (.putfield 21, 3)) (k : ∀ (H1 : Heap) (locs1 : List Loc), EW D vwCl A (wE cI cZ cQ ad T M Cc (fld, jco, rbs, x, sk, tc, fa) Rr Ls) H0 H1 locs1 → W p l e R s m args below meth c H1 locs1 cells slots Q (F0 m (pc + 3) ls rest)) : W p l e R s m args below meth c H locs cells slots Q (F0 m pc ls (.int (zI x) :: .ref (ad 18) :: rest)) :=
  va_put (D := D) (ci := 1) (v := .int (zI x)) (ty := .int) (C := R_Journal) (T := F_Journal) (N := 7) C.1 C.2.1 C.2.2.2.2 in_Journal t_Journal t_Journal_ok n_Journal C.2.2.2.1 hK.1 hE.1 hE.2.1 hE.2.2 18 rfl rfl 3 (by decide) (C.2.2.2.2 _ fl_Journal_21) (fun _ h => h) rfl (by decide +kernel) rfl rfl (Nat.le_of_ble_eq_true rfl) hdg (fun H1 locs1 hP hD hS => k H1 locs1 ⟨hP, hD, hS⟩)
theorem pf_Journal_25 (C : CallFix p m c cc nL s args Wl R_Journal) (hK : KN D vwCl (tyE cI cZ cQ) s) (hE : EW D vwCl A (wE cI cZ cQ ad T M Cc (fld, jco, rbs, ev, sk, tc, fa) Rr Ls) H0 H locs) {x : Int} (hdg : decode cc pc = .ok (.putfield 25, 3)) (k : ∀ (H1 : Heap) (locs1 : List Loc), EW D vwCl A (wE cI cZ cQ ad T M Cc (fld, jco, rbs, ev, x, tc, fa) Rr Ls) H0 H1 locs1 → W p l e R s m args below meth c H1 locs1 cells slots Q (F0 m (pc + 3) ls rest)) : W p l e R s m args below meth c H locs cells slots Q (F0 m pc ls (.int (zI x) :: .ref (ad 18) :: rest)) :=
  va_put (D := D) (ci := 1) (v := .int (zI x)) (ty := .int) (C := R_Journal) (T := F_Journal) (N := 7) C.1 C.2.1 C.2.2.2.2 in_Journal t_Journal t_Journal_ok n_Journal C.2.2.2.1 hK.1 hE.1 hE.2.1 hE.2.2 18 rfl rfl 4 (by decide) (C.2.2.2.2 _ fl_Journal_25) (fun _ h => h) rfl (by decide +kernel) rfl rfl (Nat.le_of_ble_eq_true rfl) hdg (fun H1 locs1 hP hD hS => k H1 locs1 ⟨hP, hD, hS⟩)
theorem pf_Journal_28 (C : CallFix p m c cc nL s args Wl R_Journal) (hK : KN D vwCl (tyE cI cZ cQ) s) (hE : EW D vwCl A (wE cI cZ cQ ad T M Cc (fld, jco, rbs, ev, sk, tc, fa) Rr Ls) H0 H locs) {x : Int} (hdg : decode cc pc = .ok (.putfield 28, 3)) (k : ∀ (H1 : Heap) (locs1 : List Loc), EW D vwCl A (wE cI cZ cQ ad T M Cc (fld, jco, rbs, ev, sk, x, fa) Rr Ls) H0 H1 locs1 → W p l e R s m args below meth c H1 locs1 cells slots Q (F0 m (pc + 3) ls rest)) : W p l e R s m args below meth c H locs cells slots Q (F0 m pc ls (.int (zI x) :: .ref (ad 18) :: rest)) :=
  va_put (D := D) (ci := 1) (v := .int (zI x)) (ty := .int) (C := R_Journal) (T := F_Journal) (N := 7) C.1 C.2.1 C.2.2.2.2 in_Journal t_Journal t_Journal_ok n_Journal C.2.2.2.1 hK.1 hE.1 hE.2.1 hE.2.2 18 rfl rfl 5 (by decide) (C.2.2.2.2 _ fl_Journal_28) (fun _ h => h) rfl (by decide +kernel) rfl rfl (Nat.le_of_ble_eq_true rfl) hdg (fun H1 locs1 hP hD hS => k H1 locs1 ⟨hP, hD, hS⟩)
theorem pf_Journal_31 (C : CallFix p m c cc nL s args Wl R_Journal) (hK : KN D vwCl (tyE cI cZ cQ) s) (hE : EW D vwCl A (wE cI cZ cQ ad T M Cc (fld, jco, rbs, ev, sk, tc, fa) Rr Ls) H0 H locs) {x : Int} (hv : x = 0 ∨ x = 1) (hdg : decode cc pc = .ok (.putfield 31, 3)) (k : ∀ (H1 : Heap) (locs1 : List Loc), EW D vwCl A (wE cI cZ cQ ad T M Cc (fld, jco, rbs, ev, sk, tc, x) Rr Ls) H0 H1 locs1 → W p l e R s m args below meth c H1 locs1 cells slots Q (F0 m (pc + 3) ls rest)) : W p l e R s m args below meth c H locs cells slots Q (F0 m pc ls (.int (zI x) :: .ref (ad 18) :: rest)) :=
  va_put (D := D) (ci := 1) (v := .int (zI x)) (ty := .boolean) (C := R_Journal) (T := F_Journal) (N := 7) C.1 C.2.1 C.2.2.2.2 in_Journal t_Journal t_Journal_ok n_Journal C.2.2.2.1 hK.1 hE.1 hE.2.1 hE.2.2 18 rfl rfl 6 (by decide) (C.2.2.2.2 _ fl_Journal_31) (fun _ h => h) rfl (by decide +kernel) (zB_nar hv) (zB_fit hv) (Nat.le_of_ble_eq_true rfl) hdg (fun H1 locs1 hP hD hS => k H1 locs1 ⟨hP, hD, hS⟩)
theorem pf_Runner_41 (C : CallFix p m c cc nL s args Wl R_Runner) (hK : KN D vwCl (tyE cI cZ cQ) s) (hE : EW D vwCl A (wE cI cZ cQ ad T M Cc J (pth, ins, im, tm, ca, br) Ls) H0 H locs) {x : Int} (hdg : decode cc pc = .ok (.putfield 41, 3)) (k : ∀ (H1 : Heap) (locs1 : List Loc), EW D vwCl A (wE cI cZ cQ ad T M Cc J (pth, ins, x, tm, ca, br) Ls) H0 H1 locs1 → W p l e R s m args below meth c H1 locs1 cells slots Q (F0 m (pc + 3) ls rest)) : W p l e R s m args below meth c H locs cells slots Q (F0 m pc ls (.int (zI x) :: .ref (ad 22) :: rest)) :=
  va_put (D := D) (ci := 3) (v := .int (zI x)) (ty := .int) (C := R_Runner) (T := F_Runner) (N := 11) C.1 C.2.1 C.2.2.2.2 in_Runner t_Runner t_Runner_ok n_Runner C.2.2.2.1 hK.1 hE.1 hE.2.1 hE.2.2 22 rfl rfl 7 (by decide) (C.2.2.2.2 _ fl_Runner_41) (fun _ h => h) rfl (by decide +kernel) rfl rfl (Nat.le_of_ble_eq_true rfl) hdg (fun H1 locs1 hP hD hS => k H1 locs1 ⟨hP, hD, hS⟩)
theorem pf_Runner_45 (C : CallFix p m c cc nL s args Wl R_Runner) (hK : KN D vwCl (tyE cI cZ cQ) s) (hE : EW D vwCl A (wE cI cZ cQ ad T M Cc J (pth, ins, im, tm, ca, br) Ls) H0 H locs) {x : Int} (hdg : decode cc pc = .ok (.putfield 45, 3)) (k : ∀ (H1 : Heap) (locs1 : List Loc), EW D vwCl A (wE cI cZ cQ ad T M Cc J (pth, ins, im, x, ca, br) Ls) H0 H1 locs1 → W p l e R s m args below meth c H1 locs1 cells slots Q (F0 m (pc + 3) ls rest)) : W p l e R s m args below meth c H locs cells slots Q (F0 m pc ls (.int (zI x) :: .ref (ad 22) :: rest)) :=
  va_put (D := D) (ci := 3) (v := .int (zI x)) (ty := .int) (C := R_Runner) (T := F_Runner) (N := 11) C.1 C.2.1 C.2.2.2.2 in_Runner t_Runner t_Runner_ok n_Runner C.2.2.2.1 hK.1 hE.1 hE.2.1 hE.2.2 22 rfl rfl 8 (by decide) (C.2.2.2.2 _ fl_Runner_45) (fun _ h => h) rfl (by decide +kernel) rfl rfl (Nat.le_of_ble_eq_true rfl) hdg (fun H1 locs1 hP hD hS => k H1 locs1 ⟨hP, hD, hS⟩)
theorem pf_Runner_48 (C : CallFix p m c cc nL s args Wl R_Runner) (hK : KN D vwCl (tyE cI cZ cQ) s) (hE : EW D vwCl A (wE cI cZ cQ ad T M Cc J (pth, ins, im, tm, ca, br) Ls) H0 H locs) {x : Int} (hdg : decode cc pc = .ok (.putfield 48, 3)) (k : ∀ (H1 : Heap) (locs1 : List Loc), EW D vwCl A (wE cI cZ cQ ad T M Cc J (pth, ins, im, tm, x, br) Ls) H0 H1 locs1 → W p l e R s m args below meth c H1 locs1 cells slots Q (F0 m (pc + 3) ls rest)) : W p l e R s m args below meth c H locs cells slots Q (F0 m pc ls (.int (zI x) :: .ref (ad 22) :: rest)) :=
  va_put (D := D) (ci := 3) (v := .int (zI x)) (ty := .int) (C := R_Runner) (T := F_Runner) (N := 11) C.1 C.2.1 C.2.2.2.2 in_Runner t_Runner t_Runner_ok n_Runner C.2.2.2.1 hK.1 hE.1 hE.2.1 hE.2.2 22 rfl rfl 9 (by decide) (C.2.2.2.2 _ fl_Runner_48) (fun _ h => h) rfl (by decide +kernel) rfl rfl (Nat.le_of_ble_eq_true rfl) hdg (fun H1 locs1 hP hD hS => k H1 locs1 ⟨hP, hD, hS⟩)
theorem pf_Runner_51 (C : CallFix p m c cc nL s args Wl R_Runner) (hK : KN D vwCl (tyE cI cZ cQ) s) (hE : EW D vwCl A (wE cI cZ cQ ad T M Cc J (pth, ins, im, tm, ca, br) Ls) H0 H locs) {x : Int} (hdg : decode cc pc = .ok (.putfield 51, 3)) (k : ∀ (H1 : Heap) (locs1 : List Loc), EW D vwCl A (wE cI cZ cQ ad T M Cc J (pth, ins, im, tm, ca, x) Ls) H0 H1 locs1 → W p l e R s m args below meth c H1 locs1 cells slots Q (F0 m (pc + 3) ls rest)) : W p l e R s m args below meth c H locs cells slots Q (F0 m pc ls (.int (zI x) :: .ref (ad 22) :: rest)) :=
  va_put (D := D) (ci := 3) (v := .int (zI x)) (ty := .int) (C := R_Runner) (T := F_Runner) (N := 11) C.1 C.2.1 C.2.2.2.2 in_Runner t_Runner t_Runner_ok n_Runner C.2.2.2.1 hK.1 hE.1 hE.2.1 hE.2.2 22 rfl rfl 10 (by decide) (C.2.2.2.2 _ fl_Runner_51) (fun _ h => h) rfl (by decide +kernel) rfl rfl (Nat.le_of_ble_eq_true rfl) hdg (fun H1 locs1 hP hD hS => k H1 locs1 ⟨hP, hD, hS⟩)
theorem pf_Tree_37 (C : CallFix p m c cc nL s args Wl R_Tree) (hK : KN D vwCl (tyE cI cZ cQ) s) (hE : EW D vwCl A (wE cI cZ cQ ad (par, dep, ord, tag, dis, shr, rnd, dln, tsz) M Cc J Rr Ls) H0 H locs) {x : Int} (hdg : decode cc pc = .ok (.putfield 37, 3)) (k : ∀ (H1 : Heap) (locs1 : List Loc), EW D vwCl A (wE cI cZ cQ ad (par, dep, ord, tag, dis, shr, rnd, dln, x) M Cc J Rr Ls) H0 H1 locs1 → W p l e R s m args below meth c H1 locs1 cells slots Q (F0 m (pc + 3) ls rest)) : W p l e R s m args below meth c H locs cells slots Q (F0 m pc ls (.int (zI x) :: .ref (ad 1) :: rest)) :=
  va_put (D := D) (ci := 4) (v := .int (zI x)) (ty := .int) (C := R_Tree) (T := F_Tree) (N := 9) C.1 C.2.1 C.2.2.2.2 in_Tree t_Tree t_Tree_ok n_Tree C.2.2.2.1 hK.1 hE.1 hE.2.1 hE.2.2 1 rfl rfl 8 (by decide) (C.2.2.2.2 _ fl_Tree_37) (fun _ h => h) rfl (by decide +kernel) rfl rfl (Nat.le_of_ble_eq_true rfl) hdg (fun H1 locs1 hP hD hS => k H1 locs1 ⟨hP, hD, hS⟩)
theorem pf_Troubles_15 (C : CallFix p m c cc nL s args Wl R_Troubles) (hK : KN D vwCl (tyE cI cZ cQ) s) {v : Int} (hlv : 0 ≤ v ∧ v < 5) (hE : EW D vwCl A (wE cI cZ cQ ad T M Cc J Rr (lc, lz, lg)) H0 H locs) {x : Int} (hdg : decode cc pc = .ok (.putfield 15, 3)) (k : ∀ (H1 : Heap) (locs1 : List Loc), EW D vwCl A (wE cI cZ cQ ad T M Cc J Rr (lc, iup lz v x, lg)) H0 H1 locs1 → W p l e R s m args below meth c H1 locs1 cells slots Q (F0 m (pc + 3) ls rest)) : W p l e R s m args below meth c H locs cells slots Q (F0 m pc ls (.int (zI x) :: .ref (ad (26 + v.toNat)) :: rest)) :=
  va_put (D := D) (ci := 5) (v := .int (zI x)) (ty := .int) (C := R_Troubles) (T := F_Troubles) (N := 3) C.1 C.2.1 C.2.2.2.2 in_Troubles t_Troubles t_Troubles_ok n_Troubles C.2.2.2.1 hK.1 hE.1 hE.2.1 hE.2.2 (26 + v.toNat) (wE_T hlv) rfl 1 (by decide) (C.2.2.2.2 _ fl_Troubles_15) (fun _ h => h) rfl (by decide +kernel) rfl rfl (Nat.le_of_ble_eq_true rfl) hdg (fun H1 locs1 hP hD hS => k H1 locs1 ⟨by rw [wE_T_lz hlv] at hP; exact hP, by rw [wE_T_lz hlv] at hD; exact hD, hS⟩)
theorem pf_Troubles_19 (C : CallFix p m c cc nL s args Wl R_Troubles) (hK : KN D vwCl (tyE cI cZ cQ) s) {v : Int} (hlv : 0 ≤ v ∧ v < 5) (hE : EW D vwCl A (wE cI cZ cQ ad T M Cc J Rr (lc, lz, lg)) H0 H locs) {x : Int} (hv : x = 0 ∨ x = 1) (hdg : decode cc pc = .ok (.putfield 19, 3)) (k : ∀ (H1 : Heap) (locs1 : List Loc), EW D vwCl A (wE cI cZ cQ ad T M Cc J Rr (lc, lz, iup lg v x)) H0 H1 locs1 → W p l e R s m args below meth c H1 locs1 cells slots Q (F0 m (pc + 3) ls rest)) : W p l e R s m args below meth c H locs cells slots Q (F0 m pc ls (.int (zI x) :: .ref (ad (26 + v.toNat)) :: rest)) :=
  va_put (D := D) (ci := 5) (v := .int (zI x)) (ty := .boolean) (C := R_Troubles) (T := F_Troubles) (N := 3) C.1 C.2.1 C.2.2.2.2 in_Troubles t_Troubles t_Troubles_ok n_Troubles C.2.2.2.1 hK.1 hE.1 hE.2.1 hE.2.2 (26 + v.toNat) (wE_T hlv) rfl 2 (by decide) (C.2.2.2.2 _ fl_Troubles_19) (fun _ h => h) rfl (by decide +kernel) (zB_nar hv) (zB_fit hv) (Nat.le_of_ble_eq_true rfl) hdg (fun H1 locs1 hP hD hS => k H1 locs1 ⟨by rw [wE_T_lg hlv] at hP; exact hP, by rw [wE_T_lg hlv] at hD; exact hD, hS⟩)
theorem al_par (C : CallFix p m c cc nL s args Wl own) (hK : KN D vwCl (tyE cI cZ cQ) s) (hE : EW D vwCl A (wE cI cZ cQ ad T M Cc J Rr Ls) H0 H locs) {j x : Int} (hj : 0 ≤ j ∧ j < 24) (hv : g_par T j = x) (hdg : decode cc pc = .ok (.iaload, 1)) (k : W p l e R s m args below meth c H locs cells slots Q (F0 m (pc + 1) ls (.int (zI x) :: rest))) : W p l e R s m args below meth c H locs cells slots Q (F0 m pc ls (.int (zI j) :: .ref (ad 2) :: rest)) := by
  subst hv
  exact zx_iald C.1 C.2.1 hK.1 hE.1 2 0 rfl rfl (by decide) hj hdg k
theorem as_par (C : CallFix p m c cc nL s args Wl own) (hK : KN D vwCl (tyE cI cZ cQ) s) (hE : EW D vwCl A (wE cI cZ cQ ad (par, dep, ord, tag, dis, shr, rnd, dln, tsz) M Cc J Rr Ls) H0 H locs) {j x : Int} (hj : 0 ≤ j ∧ j < 24) (hdg : decode cc pc = .ok (.iastore, 1)) (k : ∀ (H1 : Heap) (locs1 : List Loc), EW D vwCl A (wE cI cZ cQ ad (iup par j x, dep, ord, tag, dis, shr, rnd, dln, tsz) M Cc J Rr Ls) H0 H1 locs1 → W p l e R s m args below meth c H1 locs1 cells slots Q (F0 m (pc + 1) ls rest)) : W p l e R s m args below meth c H locs cells slots Q (F0 m pc ls (.int (zI x) :: .int (zI j) :: .ref (ad 2) :: rest)) :=
  zx_iast C.1 C.2.1 hK.1 hE.1 hE.2.1 hE.2.2 2 0 rfl rfl (by decide) hj hdg (fun H1 locs1 hP hD hS => k H1 locs1 ⟨hP, hD, hS⟩)
theorem al_dep (C : CallFix p m c cc nL s args Wl own) (hK : KN D vwCl (tyE cI cZ cQ) s) (hE : EW D vwCl A (wE cI cZ cQ ad T M Cc J Rr Ls) H0 H locs) {j x : Int} (hj : 0 ≤ j ∧ j < 24) (hv : g_dep T j = x) (hdg : decode cc pc = .ok (.iaload, 1)) (k : W p l e R s m args below meth c H locs cells slots Q (F0 m (pc + 1) ls (.int (zI x) :: rest))) : W p l e R s m args below meth c H locs cells slots Q (F0 m pc ls (.int (zI j) :: .ref (ad 3) :: rest)) := by
  subst hv
  exact zx_iald C.1 C.2.1 hK.1 hE.1 3 0 rfl rfl (by decide) hj hdg k
theorem as_dep (C : CallFix p m c cc nL s args Wl own) (hK : KN D vwCl (tyE cI cZ cQ) s) (hE : EW D vwCl A (wE cI cZ cQ ad (par, dep, ord, tag, dis, shr, rnd, dln, tsz) M Cc J Rr Ls) H0 H locs) {j x : Int} (hj : 0 ≤ j ∧ j < 24) (hdg : decode cc pc = .ok (.iastore, 1)) (k : ∀ (H1 : Heap) (locs1 : List Loc), EW D vwCl A (wE cI cZ cQ ad (par, iup dep j x, ord, tag, dis, shr, rnd, dln, tsz) M Cc J Rr Ls) H0 H1 locs1 → W p l e R s m args below meth c H1 locs1 cells slots Q (F0 m (pc + 1) ls rest)) : W p l e R s m args below meth c H locs cells slots Q (F0 m pc ls (.int (zI x) :: .int (zI j) :: .ref (ad 3) :: rest)) :=
  zx_iast C.1 C.2.1 hK.1 hE.1 hE.2.1 hE.2.2 3 0 rfl rfl (by decide) hj hdg (fun H1 locs1 hP hD hS => k H1 locs1 ⟨hP, hD, hS⟩)
theorem al_ord (C : CallFix p m c cc nL s args Wl own) (hK : KN D vwCl (tyE cI cZ cQ) s) (hE : EW D vwCl A (wE cI cZ cQ ad T M Cc J Rr Ls) H0 H locs) {j x : Int} (hj : 0 ≤ j ∧ j < 24) (hv : g_ord T j = x) (hdg : decode cc pc = .ok (.iaload, 1)) (k : W p l e R s m args below meth c H locs cells slots Q (F0 m (pc + 1) ls (.int (zI x) :: rest))) : W p l e R s m args below meth c H locs cells slots Q (F0 m pc ls (.int (zI j) :: .ref (ad 4) :: rest)) := by
  subst hv
  exact zx_iald C.1 C.2.1 hK.1 hE.1 4 0 rfl rfl (by decide) hj hdg k
theorem as_ord (C : CallFix p m c cc nL s args Wl own) (hK : KN D vwCl (tyE cI cZ cQ) s) (hE : EW D vwCl A (wE cI cZ cQ ad (par, dep, ord, tag, dis, shr, rnd, dln, tsz) M Cc J Rr Ls) H0 H locs) {j x : Int} (hj : 0 ≤ j ∧ j < 24) (hdg : decode cc pc = .ok (.iastore, 1)) (k : ∀ (H1 : Heap) (locs1 : List Loc), EW D vwCl A (wE cI cZ cQ ad (par, dep, iup ord j x, tag, dis, shr, rnd, dln, tsz) M Cc J Rr Ls) H0 H1 locs1 → W p l e R s m args below meth c H1 locs1 cells slots Q (F0 m (pc + 1) ls rest)) : W p l e R s m args below meth c H locs cells slots Q (F0 m pc ls (.int (zI x) :: .int (zI j) :: .ref (ad 4) :: rest)) :=
  zx_iast C.1 C.2.1 hK.1 hE.1 hE.2.1 hE.2.2 4 0 rfl rfl (by decide) hj hdg (fun H1 locs1 hP hD hS => k H1 locs1 ⟨hP, hD, hS⟩)
theorem al_tag (C : CallFix p m c cc nL s args Wl own) (hK : KN D vwCl (tyE cI cZ cQ) s) (hE : EW D vwCl A (wE cI cZ cQ ad T M Cc J Rr Ls) H0 H locs) {j x : Int} (hj : 0 ≤ j ∧ j < 24) (hv : g_tag T j = x) (hdg : decode cc pc = .ok (.iaload, 1)) (k : W p l e R s m args below meth c H locs cells slots Q (F0 m (pc + 1) ls (.int (zI x) :: rest))) : W p l e R s m args below meth c H locs cells slots Q (F0 m pc ls (.int (zI j) :: .ref (ad 5) :: rest)) := by
  subst hv
  exact zx_iald C.1 C.2.1 hK.1 hE.1 5 0 rfl rfl (by decide) hj hdg k
theorem as_tag (C : CallFix p m c cc nL s args Wl own) (hK : KN D vwCl (tyE cI cZ cQ) s) (hE : EW D vwCl A (wE cI cZ cQ ad (par, dep, ord, tag, dis, shr, rnd, dln, tsz) M Cc J Rr Ls) H0 H locs) {j x : Int} (hj : 0 ≤ j ∧ j < 24) (hdg : decode cc pc = .ok (.iastore, 1)) (k : ∀ (H1 : Heap) (locs1 : List Loc), EW D vwCl A (wE cI cZ cQ ad (par, dep, ord, iup tag j x, dis, shr, rnd, dln, tsz) M Cc J Rr Ls) H0 H1 locs1 → W p l e R s m args below meth c H1 locs1 cells slots Q (F0 m (pc + 1) ls rest)) : W p l e R s m args below meth c H locs cells slots Q (F0 m pc ls (.int (zI x) :: .int (zI j) :: .ref (ad 5) :: rest)) :=
  zx_iast C.1 C.2.1 hK.1 hE.1 hE.2.1 hE.2.2 5 0 rfl rfl (by decide) hj hdg (fun H1 locs1 hP hD hS => k H1 locs1 ⟨hP, hD, hS⟩)
theorem al_dis (C : CallFix p m c cc nL s args Wl own) (hK : KN D vwCl (tyE cI cZ cQ) s) (hE : EW D vwCl A (wE cI cZ cQ ad T M Cc J Rr Ls) H0 H locs) {j x : Int} (hj : 0 ≤ j ∧ j < 24) (hv : g_dis T j = x) (hdg : decode cc pc = .ok (.baload, 1)) (k : W p l e R s m args below meth c H locs cells slots Q (F0 m (pc + 1) ls (.int (zI x) :: rest))) : W p l e R s m args below meth c H locs cells slots Q (F0 m pc ls (.int (zI j) :: .ref (ad 6) :: rest)) := by
  subst hv
  exact zx_zald C.1 C.2.1 hK.1 hE.1 6 1 rfl rfl (by decide) hj hdg k
theorem as_dis (C : CallFix p m c cc nL s args Wl own) (hK : KN D vwCl (tyE cI cZ cQ) s) (hE : EW D vwCl A (wE cI cZ cQ ad (par, dep, ord, tag, dis, shr, rnd, dln, tsz) M Cc J Rr Ls) H0 H locs) {j x : Int} (hj : 0 ≤ j ∧ j < 24) (hv : x = 0 ∨ x = 1) (hdg : decode cc pc = .ok (.bastore, 1)) (k : ∀ (H1 : Heap) (locs1 : List Loc), EW D vwCl A (wE cI cZ cQ ad (par, dep, ord, tag, iup dis j x, shr, rnd, dln, tsz) M Cc J Rr Ls) H0 H1 locs1 → W p l e R s m args below meth c H1 locs1 cells slots Q (F0 m (pc + 1) ls rest)) : W p l e R s m args below meth c H locs cells slots Q (F0 m pc ls (.int (zI x) :: .int (zI j) :: .ref (ad 6) :: rest)) :=
  zx_zast C.1 C.2.1 hK.1 hE.1 hE.2.1 hE.2.2 6 1 rfl rfl (by decide) hj hv hdg (fun H1 locs1 hP hD hS => k H1 locs1 ⟨hP, hD, hS⟩)
theorem al_shr (C : CallFix p m c cc nL s args Wl own) (hK : KN D vwCl (tyE cI cZ cQ) s) (hE : EW D vwCl A (wE cI cZ cQ ad T M Cc J Rr Ls) H0 H locs) {j x : Int} (hj : 0 ≤ j ∧ j < 24) (hv : g_shr T j = x) (hdg : decode cc pc = .ok (.baload, 1)) (k : W p l e R s m args below meth c H locs cells slots Q (F0 m (pc + 1) ls (.int (zI x) :: rest))) : W p l e R s m args below meth c H locs cells slots Q (F0 m pc ls (.int (zI j) :: .ref (ad 7) :: rest)) := by
  subst hv
  exact zx_zald C.1 C.2.1 hK.1 hE.1 7 1 rfl rfl (by decide) hj hdg k
theorem as_shr (C : CallFix p m c cc nL s args Wl own) (hK : KN D vwCl (tyE cI cZ cQ) s) (hE : EW D vwCl A (wE cI cZ cQ ad (par, dep, ord, tag, dis, shr, rnd, dln, tsz) M Cc J Rr Ls) H0 H locs) {j x : Int} (hj : 0 ≤ j ∧ j < 24) (hv : x = 0 ∨ x = 1) (hdg : decode cc pc = .ok (.bastore, 1)) (k : ∀ (H1 : Heap) (locs1 : List Loc), EW D vwCl A (wE cI cZ cQ ad (par, dep, ord, tag, dis, iup shr j x, rnd, dln, tsz) M Cc J Rr Ls) H0 H1 locs1 → W p l e R s m args below meth c H1 locs1 cells slots Q (F0 m (pc + 1) ls rest)) : W p l e R s m args below meth c H locs cells slots Q (F0 m pc ls (.int (zI x) :: .int (zI j) :: .ref (ad 7) :: rest)) :=
  zx_zast C.1 C.2.1 hK.1 hE.1 hE.2.1 hE.2.2 7 1 rfl rfl (by decide) hj hv hdg (fun H1 locs1 hP hD hS => k H1 locs1 ⟨hP, hD, hS⟩)
theorem al_rnd (C : CallFix p m c cc nL s args Wl own) (hK : KN D vwCl (tyE cI cZ cQ) s) (hE : EW D vwCl A (wE cI cZ cQ ad T M Cc J Rr Ls) H0 H locs) {j x : Int} (hj : 0 ≤ j ∧ j < 24) (hv : g_rnd T j = x) (hdg : decode cc pc = .ok (.iaload, 1)) (k : W p l e R s m args below meth c H locs cells slots Q (F0 m (pc + 1) ls (.int (zI x) :: rest))) : W p l e R s m args below meth c H locs cells slots Q (F0 m pc ls (.int (zI j) :: .ref (ad 8) :: rest)) := by
  subst hv
  exact zx_iald C.1 C.2.1 hK.1 hE.1 8 0 rfl rfl (by decide) hj hdg k
theorem as_rnd (C : CallFix p m c cc nL s args Wl own) (hK : KN D vwCl (tyE cI cZ cQ) s) (hE : EW D vwCl A (wE cI cZ cQ ad (par, dep, ord, tag, dis, shr, rnd, dln, tsz) M Cc J Rr Ls) H0 H locs) {j x : Int} (hj : 0 ≤ j ∧ j < 24) (hdg : decode cc pc = .ok (.iastore, 1)) (k : ∀ (H1 : Heap) (locs1 : List Loc), EW D vwCl A (wE cI cZ cQ ad (par, dep, ord, tag, dis, shr, iup rnd j x, dln, tsz) M Cc J Rr Ls) H0 H1 locs1 → W p l e R s m args below meth c H1 locs1 cells slots Q (F0 m (pc + 1) ls rest)) : W p l e R s m args below meth c H locs cells slots Q (F0 m pc ls (.int (zI x) :: .int (zI j) :: .ref (ad 8) :: rest)) :=
  zx_iast C.1 C.2.1 hK.1 hE.1 hE.2.1 hE.2.2 8 0 rfl rfl (by decide) hj hdg (fun H1 locs1 hP hD hS => k H1 locs1 ⟨hP, hD, hS⟩)
theorem al_dln (C : CallFix p m c cc nL s args Wl own) (hK : KN D vwCl (tyE cI cZ cQ) s) (hE : EW D vwCl A (wE cI cZ cQ ad T M Cc J Rr Ls) H0 H locs) {j x : Int} (hj : 0 ≤ j ∧ j < 24) (hv : g_dln T j = x) (hdg : decode cc pc = .ok (.iaload, 1)) (k : W p l e R s m args below meth c H locs cells slots Q (F0 m (pc + 1) ls (.int (zI x) :: rest))) : W p l e R s m args below meth c H locs cells slots Q (F0 m pc ls (.int (zI j) :: .ref (ad 9) :: rest)) := by
  subst hv
  exact zx_iald C.1 C.2.1 hK.1 hE.1 9 0 rfl rfl (by decide) hj hdg k
theorem as_dln (C : CallFix p m c cc nL s args Wl own) (hK : KN D vwCl (tyE cI cZ cQ) s) (hE : EW D vwCl A (wE cI cZ cQ ad (par, dep, ord, tag, dis, shr, rnd, dln, tsz) M Cc J Rr Ls) H0 H locs) {j x : Int} (hj : 0 ≤ j ∧ j < 24) (hdg : decode cc pc = .ok (.iastore, 1)) (k : ∀ (H1 : Heap) (locs1 : List Loc), EW D vwCl A (wE cI cZ cQ ad (par, dep, ord, tag, dis, shr, rnd, iup dln j x, tsz) M Cc J Rr Ls) H0 H1 locs1 → W p l e R s m args below meth c H1 locs1 cells slots Q (F0 m (pc + 1) ls rest)) : W p l e R s m args below meth c H locs cells slots Q (F0 m pc ls (.int (zI x) :: .int (zI j) :: .ref (ad 9) :: rest)) :=
  zx_iast C.1 C.2.1 hK.1 hE.1 hE.2.1 hE.2.2 9 0 rfl rfl (by decide) hj hdg (fun H1 locs1 hP hD hS => k H1 locs1 ⟨hP, hD, hS⟩)
theorem al_thr (C : CallFix p m c cc nL s args Wl own) (hK : KN D vwCl (tyE cI cZ cQ) s) (hE : EW D vwCl A (wE cI cZ cQ ad T M Cc J Rr Ls) H0 H locs) {j x : Int} (hj : 0 ≤ j ∧ j < 168) (hv : g_thr M j = x) (hdg : decode cc pc = .ok (.baload, 1)) (k : W p l e R s m args below meth c H locs cells slots Q (F0 m (pc + 1) ls (.int (zI x) :: rest))) : W p l e R s m args below meth c H locs cells slots Q (F0 m pc ls (.int (zI j) :: .ref (ad 11) :: rest)) := by
  subst hv
  exact zx_zald C.1 C.2.1 hK.1 hE.1 11 1 rfl rfl (by decide) hj hdg k
theorem as_thr (C : CallFix p m c cc nL s args Wl own) (hK : KN D vwCl (tyE cI cZ cQ) s) (hE : EW D vwCl A (wE cI cZ cQ ad T (thr, res, cod, len) Cc J Rr Ls) H0 H locs) {j x : Int} (hj : 0 ≤ j ∧ j < 168) (hv : x = 0 ∨ x = 1) (hdg : decode cc pc = .ok (.bastore, 1)) (k : ∀ (H1 : Heap) (locs1 : List Loc), EW D vwCl A (wE cI cZ cQ ad T (iup thr j x, res, cod, len) Cc J Rr Ls) H0 H1 locs1 → W p l e R s m args below meth c H1 locs1 cells slots Q (F0 m (pc + 1) ls rest)) : W p l e R s m args below meth c H locs cells slots Q (F0 m pc ls (.int (zI x) :: .int (zI j) :: .ref (ad 11) :: rest)) :=
  zx_zast C.1 C.2.1 hK.1 hE.1 hE.2.1 hE.2.2 11 1 rfl rfl (by decide) hj hv hdg (fun H1 locs1 hP hD hS => k H1 locs1 ⟨hP, hD, hS⟩)
theorem al_res (C : CallFix p m c cc nL s args Wl own) (hK : KN D vwCl (tyE cI cZ cQ) s) (hE : EW D vwCl A (wE cI cZ cQ ad T M Cc J Rr Ls) H0 H locs) {j x : Int} (hj : 0 ≤ j ∧ j < 168) (hv : g_res M j = x) (hdg : decode cc pc = .ok (.iaload, 1)) (k : W p l e R s m args below meth c H locs cells slots Q (F0 m (pc + 1) ls (.int (zI x) :: rest))) : W p l e R s m args below meth c H locs cells slots Q (F0 m pc ls (.int (zI j) :: .ref (ad 12) :: rest)) := by
  subst hv
  exact zx_iald C.1 C.2.1 hK.1 hE.1 12 0 rfl rfl (by decide) hj hdg k
theorem as_res (C : CallFix p m c cc nL s args Wl own) (hK : KN D vwCl (tyE cI cZ cQ) s) (hE : EW D vwCl A (wE cI cZ cQ ad T (thr, res, cod, len) Cc J Rr Ls) H0 H locs) {j x : Int} (hj : 0 ≤ j ∧ j < 168) (hdg : decode cc pc = .ok (.iastore, 1)) (k : ∀ (H1 : Heap) (locs1 : List Loc), EW D vwCl A (wE cI cZ cQ ad T (thr, iup res j x, cod, len) Cc J Rr Ls) H0 H1 locs1 → W p l e R s m args below meth c H1 locs1 cells slots Q (F0 m (pc + 1) ls rest)) : W p l e R s m args below meth c H locs cells slots Q (F0 m pc ls (.int (zI x) :: .int (zI j) :: .ref (ad 12) :: rest)) :=
  zx_iast C.1 C.2.1 hK.1 hE.1 hE.2.1 hE.2.2 12 0 rfl rfl (by decide) hj hdg (fun H1 locs1 hP hD hS => k H1 locs1 ⟨hP, hD, hS⟩)
theorem al_cod (C : CallFix p m c cc nL s args Wl own) (hK : KN D vwCl (tyE cI cZ cQ) s) (hE : EW D vwCl A (wE cI cZ cQ ad T M Cc J Rr Ls) H0 H locs) {j x : Int} (hj : 0 ≤ j ∧ j < 168) (hv : g_cod M j = x) (hdg : decode cc pc = .ok (.iaload, 1)) (k : W p l e R s m args below meth c H locs cells slots Q (F0 m (pc + 1) ls (.int (zI x) :: rest))) : W p l e R s m args below meth c H locs cells slots Q (F0 m pc ls (.int (zI j) :: .ref (ad 13) :: rest)) := by
  subst hv
  exact zx_iald C.1 C.2.1 hK.1 hE.1 13 0 rfl rfl (by decide) hj hdg k
theorem as_cod (C : CallFix p m c cc nL s args Wl own) (hK : KN D vwCl (tyE cI cZ cQ) s) (hE : EW D vwCl A (wE cI cZ cQ ad T (thr, res, cod, len) Cc J Rr Ls) H0 H locs) {j x : Int} (hj : 0 ≤ j ∧ j < 168) (hdg : decode cc pc = .ok (.iastore, 1)) (k : ∀ (H1 : Heap) (locs1 : List Loc), EW D vwCl A (wE cI cZ cQ ad T (thr, res, iup cod j x, len) Cc J Rr Ls) H0 H1 locs1 → W p l e R s m args below meth c H1 locs1 cells slots Q (F0 m (pc + 1) ls rest)) : W p l e R s m args below meth c H locs cells slots Q (F0 m pc ls (.int (zI x) :: .int (zI j) :: .ref (ad 13) :: rest)) :=
  zx_iast C.1 C.2.1 hK.1 hE.1 hE.2.1 hE.2.2 13 0 rfl rfl (by decide) hj hdg (fun H1 locs1 hP hD hS => k H1 locs1 ⟨hP, hD, hS⟩)
theorem al_len (C : CallFix p m c cc nL s args Wl own) (hK : KN D vwCl (tyE cI cZ cQ) s) (hE : EW D vwCl A (wE cI cZ cQ ad T M Cc J Rr Ls) H0 H locs) {j x : Int} (hj : 0 ≤ j ∧ j < 168) (hv : g_len M j = x) (hdg : decode cc pc = .ok (.iaload, 1)) (k : W p l e R s m args below meth c H locs cells slots Q (F0 m (pc + 1) ls (.int (zI x) :: rest))) : W p l e R s m args below meth c H locs cells slots Q (F0 m pc ls (.int (zI j) :: .ref (ad 14) :: rest)) := by
  subst hv
  exact zx_iald C.1 C.2.1 hK.1 hE.1 14 0 rfl rfl (by decide) hj hdg k
theorem as_len (C : CallFix p m c cc nL s args Wl own) (hK : KN D vwCl (tyE cI cZ cQ) s) (hE : EW D vwCl A (wE cI cZ cQ ad T (thr, res, cod, len) Cc J Rr Ls) H0 H locs) {j x : Int} (hj : 0 ≤ j ∧ j < 168) (hdg : decode cc pc = .ok (.iastore, 1)) (k : ∀ (H1 : Heap) (locs1 : List Loc), EW D vwCl A (wE cI cZ cQ ad T (thr, res, cod, iup len j x) Cc J Rr Ls) H0 H1 locs1 → W p l e R s m args below meth c H1 locs1 cells slots Q (F0 m (pc + 1) ls rest)) : W p l e R s m args below meth c H locs cells slots Q (F0 m pc ls (.int (zI x) :: .int (zI j) :: .ref (ad 14) :: rest)) :=
  zx_iast C.1 C.2.1 hK.1 hE.1 hE.2.1 hE.2.2 14 0 rfl rfl (by decide) hj hdg (fun H1 locs1 hP hD hS => k H1 locs1 ⟨hP, hD, hS⟩)
theorem al_alt (C : CallFix p m c cc nL s args Wl own) (hK : KN D vwCl (tyE cI cZ cQ) s) (hE : EW D vwCl A (wE cI cZ cQ ad T M Cc J Rr Ls) H0 H locs) {j x : Int} (hj : 0 ≤ j ∧ j < 24) (hv : g_alt Cc j = x) (hdg : decode cc pc = .ok (.iaload, 1)) (k : W p l e R s m args below meth c H locs cells slots Q (F0 m (pc + 1) ls (.int (zI x) :: rest))) : W p l e R s m args below meth c H locs cells slots Q (F0 m pc ls (.int (zI j) :: .ref (ad 16) :: rest)) := by
  subst hv
  exact zx_iald C.1 C.2.1 hK.1 hE.1 16 0 rfl rfl (by decide) hj hdg k
theorem as_alt (C : CallFix p m c cc nL s args Wl own) (hK : KN D vwCl (tyE cI cZ cQ) s) (hE : EW D vwCl A (wE cI cZ cQ ad T M (alt, cho, nch) J Rr Ls) H0 H locs) {j x : Int} (hj : 0 ≤ j ∧ j < 24) (hdg : decode cc pc = .ok (.iastore, 1)) (k : ∀ (H1 : Heap) (locs1 : List Loc), EW D vwCl A (wE cI cZ cQ ad T M (iup alt j x, cho, nch) J Rr Ls) H0 H1 locs1 → W p l e R s m args below meth c H1 locs1 cells slots Q (F0 m (pc + 1) ls rest)) : W p l e R s m args below meth c H locs cells slots Q (F0 m pc ls (.int (zI x) :: .int (zI j) :: .ref (ad 16) :: rest)) :=
  zx_iast C.1 C.2.1 hK.1 hE.1 hE.2.1 hE.2.2 16 0 rfl rfl (by decide) hj hdg (fun H1 locs1 hP hD hS => k H1 locs1 ⟨hP, hD, hS⟩)
theorem al_cho (C : CallFix p m c cc nL s args Wl own) (hK : KN D vwCl (tyE cI cZ cQ) s) (hE : EW D vwCl A (wE cI cZ cQ ad T M Cc J Rr Ls) H0 H locs) {j x : Int} (hj : 0 ≤ j ∧ j < 24) (hv : g_cho Cc j = x) (hdg : decode cc pc = .ok (.baload, 1)) (k : W p l e R s m args below meth c H locs cells slots Q (F0 m (pc + 1) ls (.int (zI x) :: rest))) : W p l e R s m args below meth c H locs cells slots Q (F0 m pc ls (.int (zI j) :: .ref (ad 17) :: rest)) := by
  subst hv
  exact zx_zald C.1 C.2.1 hK.1 hE.1 17 1 rfl rfl (by decide) hj hdg k
theorem as_cho (C : CallFix p m c cc nL s args Wl own) (hK : KN D vwCl (tyE cI cZ cQ) s) (hE : EW D vwCl A (wE cI cZ cQ ad T M (alt, cho, nch) J Rr Ls) H0 H locs) {j x : Int} (hj : 0 ≤ j ∧ j < 24) (hv : x = 0 ∨ x = 1) (hdg : decode cc pc = .ok (.bastore, 1)) (k : ∀ (H1 : Heap) (locs1 : List Loc), EW D vwCl A (wE cI cZ cQ ad T M (alt, iup cho j x, nch) J Rr Ls) H0 H1 locs1 → W p l e R s m args below meth c H1 locs1 cells slots Q (F0 m (pc + 1) ls rest)) : W p l e R s m args below meth c H locs cells slots Q (F0 m pc ls (.int (zI x) :: .int (zI j) :: .ref (ad 17) :: rest)) :=
  zx_zast C.1 C.2.1 hK.1 hE.1 hE.2.1 hE.2.2 17 1 rfl rfl (by decide) hj hv hdg (fun H1 locs1 hP hD hS => k H1 locs1 ⟨hP, hD, hS⟩)
theorem al_fld (C : CallFix p m c cc nL s args Wl own) (hK : KN D vwCl (tyE cI cZ cQ) s) (hE : EW D vwCl A (wE cI cZ cQ ad T M Cc J Rr Ls) H0 H locs) {j x : Int} (hj : 0 ≤ j ∧ j < 1200) (hv : g_fld J j = x) (hdg : decode cc pc = .ok (.iaload, 1)) (k : W p l e R s m args below meth c H locs cells slots Q (F0 m (pc + 1) ls (.int (zI x) :: rest))) : W p l e R s m args below meth c H locs cells slots Q (F0 m pc ls (.int (zI j) :: .ref (ad 19) :: rest)) := by
  subst hv
  exact zx_iald C.1 C.2.1 hK.1 hE.1 19 0 rfl rfl (by decide) hj hdg k
theorem as_fld (C : CallFix p m c cc nL s args Wl own) (hK : KN D vwCl (tyE cI cZ cQ) s) (hE : EW D vwCl A (wE cI cZ cQ ad T M Cc (fld, jco, rbs, ev, sk, tc, fa) Rr Ls) H0 H locs) {j x : Int} (hj : 0 ≤ j ∧ j < 1200) (hdg : decode cc pc = .ok (.iastore, 1)) (k : ∀ (H1 : Heap) (locs1 : List Loc), EW D vwCl A (wE cI cZ cQ ad T M Cc (iup fld j x, jco, rbs, ev, sk, tc, fa) Rr Ls) H0 H1 locs1 → W p l e R s m args below meth c H1 locs1 cells slots Q (F0 m (pc + 1) ls rest)) : W p l e R s m args below meth c H locs cells slots Q (F0 m pc ls (.int (zI x) :: .int (zI j) :: .ref (ad 19) :: rest)) :=
  zx_iast C.1 C.2.1 hK.1 hE.1 hE.2.1 hE.2.2 19 0 rfl rfl (by decide) hj hdg (fun H1 locs1 hP hD hS => k H1 locs1 ⟨hP, hD, hS⟩)
theorem al_jco (C : CallFix p m c cc nL s args Wl own) (hK : KN D vwCl (tyE cI cZ cQ) s) (hE : EW D vwCl A (wE cI cZ cQ ad T M Cc J Rr Ls) H0 H locs) {j x : Int} (hj : 0 ≤ j ∧ j < 600) (hv : g_jco J j = x) (hdg : decode cc pc = .ok (.iaload, 1)) (k : W p l e R s m args below meth c H locs cells slots Q (F0 m (pc + 1) ls (.int (zI x) :: rest))) : W p l e R s m args below meth c H locs cells slots Q (F0 m pc ls (.int (zI j) :: .ref (ad 20) :: rest)) := by
  subst hv
  exact zx_iald C.1 C.2.1 hK.1 hE.1 20 0 rfl rfl (by decide) hj hdg k
theorem as_jco (C : CallFix p m c cc nL s args Wl own) (hK : KN D vwCl (tyE cI cZ cQ) s) (hE : EW D vwCl A (wE cI cZ cQ ad T M Cc (fld, jco, rbs, ev, sk, tc, fa) Rr Ls) H0 H locs) {j x : Int} (hj : 0 ≤ j ∧ j < 600) (hdg : decode cc pc = .ok (.iastore, 1)) (k : ∀ (H1 : Heap) (locs1 : List Loc), EW D vwCl A (wE cI cZ cQ ad T M Cc (fld, iup jco j x, rbs, ev, sk, tc, fa) Rr Ls) H0 H1 locs1 → W p l e R s m args below meth c H1 locs1 cells slots Q (F0 m (pc + 1) ls rest)) : W p l e R s m args below meth c H locs cells slots Q (F0 m pc ls (.int (zI x) :: .int (zI j) :: .ref (ad 20) :: rest)) :=
  zx_iast C.1 C.2.1 hK.1 hE.1 hE.2.1 hE.2.2 20 0 rfl rfl (by decide) hj hdg (fun H1 locs1 hP hD hS => k H1 locs1 ⟨hP, hD, hS⟩)
theorem al_rbs (C : CallFix p m c cc nL s args Wl own) (hK : KN D vwCl (tyE cI cZ cQ) s) (hE : EW D vwCl A (wE cI cZ cQ ad T M Cc J Rr Ls) H0 H locs) {j x : Int} (hj : 0 ≤ j ∧ j < 3) (hv : g_rbs J j = x) (hdg : decode cc pc = .ok (.iaload, 1)) (k : W p l e R s m args below meth c H locs cells slots Q (F0 m (pc + 1) ls (.int (zI x) :: rest))) : W p l e R s m args below meth c H locs cells slots Q (F0 m pc ls (.int (zI j) :: .ref (ad 21) :: rest)) := by
  subst hv
  exact zx_iald C.1 C.2.1 hK.1 hE.1 21 0 rfl rfl (by decide) hj hdg k
theorem as_rbs (C : CallFix p m c cc nL s args Wl own) (hK : KN D vwCl (tyE cI cZ cQ) s) (hE : EW D vwCl A (wE cI cZ cQ ad T M Cc (fld, jco, rbs, ev, sk, tc, fa) Rr Ls) H0 H locs) {j x : Int} (hj : 0 ≤ j ∧ j < 3) (hdg : decode cc pc = .ok (.iastore, 1)) (k : ∀ (H1 : Heap) (locs1 : List Loc), EW D vwCl A (wE cI cZ cQ ad T M Cc (fld, jco, iup rbs j x, ev, sk, tc, fa) Rr Ls) H0 H1 locs1 → W p l e R s m args below meth c H1 locs1 cells slots Q (F0 m (pc + 1) ls rest)) : W p l e R s m args below meth c H locs cells slots Q (F0 m pc ls (.int (zI x) :: .int (zI j) :: .ref (ad 21) :: rest)) :=
  zx_iast C.1 C.2.1 hK.1 hE.1 hE.2.1 hE.2.2 21 0 rfl rfl (by decide) hj hdg (fun H1 locs1 hP hD hS => k H1 locs1 ⟨hP, hD, hS⟩)
theorem al_pth (C : CallFix p m c cc nL s args Wl own) (hK : KN D vwCl (tyE cI cZ cQ) s) (hE : EW D vwCl A (wE cI cZ cQ ad T M Cc J Rr Ls) H0 H locs) {j x : Int} (hj : 0 ≤ j ∧ j < 4) (hv : g_pth Rr j = x) (hdg : decode cc pc = .ok (.iaload, 1)) (k : W p l e R s m args below meth c H locs cells slots Q (F0 m (pc + 1) ls (.int (zI x) :: rest))) : W p l e R s m args below meth c H locs cells slots Q (F0 m pc ls (.int (zI j) :: .ref (ad 24) :: rest)) := by
  subst hv
  exact zx_iald C.1 C.2.1 hK.1 hE.1 24 0 rfl rfl (by decide) hj hdg k
theorem as_pth (C : CallFix p m c cc nL s args Wl own) (hK : KN D vwCl (tyE cI cZ cQ) s) (hE : EW D vwCl A (wE cI cZ cQ ad T M Cc J (pth, ins, im, tm, ca, br) Ls) H0 H locs) {j x : Int} (hj : 0 ≤ j ∧ j < 4) (hdg : decode cc pc = .ok (.iastore, 1)) (k : ∀ (H1 : Heap) (locs1 : List Loc), EW D vwCl A (wE cI cZ cQ ad T M Cc J (iup pth j x, ins, im, tm, ca, br) Ls) H0 H1 locs1 → W p l e R s m args below meth c H1 locs1 cells slots Q (F0 m (pc + 1) ls rest)) : W p l e R s m args below meth c H locs cells slots Q (F0 m pc ls (.int (zI x) :: .int (zI j) :: .ref (ad 24) :: rest)) :=
  zx_iast C.1 C.2.1 hK.1 hE.1 hE.2.1 hE.2.2 24 0 rfl rfl (by decide) hj hdg (fun H1 locs1 hP hD hS => k H1 locs1 ⟨hP, hD, hS⟩)
theorem al_ins (C : CallFix p m c cc nL s args Wl own) (hK : KN D vwCl (tyE cI cZ cQ) s) (hE : EW D vwCl A (wE cI cZ cQ ad T M Cc J Rr Ls) H0 H locs) {j x : Int} (hj : 0 ≤ j ∧ j < 24) (hv : g_ins Rr j = x) (hdg : decode cc pc = .ok (.iaload, 1)) (k : W p l e R s m args below meth c H locs cells slots Q (F0 m (pc + 1) ls (.int (zI x) :: rest))) : W p l e R s m args below meth c H locs cells slots Q (F0 m pc ls (.int (zI j) :: .ref (ad 25) :: rest)) := by
  subst hv
  exact zx_iald C.1 C.2.1 hK.1 hE.1 25 0 rfl rfl (by decide) hj hdg k
theorem as_ins (C : CallFix p m c cc nL s args Wl own) (hK : KN D vwCl (tyE cI cZ cQ) s) (hE : EW D vwCl A (wE cI cZ cQ ad T M Cc J (pth, ins, im, tm, ca, br) Ls) H0 H locs) {j x : Int} (hj : 0 ≤ j ∧ j < 24) (hdg : decode cc pc = .ok (.iastore, 1)) (k : ∀ (H1 : Heap) (locs1 : List Loc), EW D vwCl A (wE cI cZ cQ ad T M Cc J (pth, iup ins j x, im, tm, ca, br) Ls) H0 H1 locs1 → W p l e R s m args below meth c H1 locs1 cells slots Q (F0 m (pc + 1) ls rest)) : W p l e R s m args below meth c H locs cells slots Q (F0 m pc ls (.int (zI x) :: .int (zI j) :: .ref (ad 25) :: rest)) :=
  zx_iast C.1 C.2.1 hK.1 hE.1 hE.2.1 hE.2.2 25 0 rfl rfl (by decide) hj hdg (fun H1 locs1 hP hD hS => k H1 locs1 ⟨hP, hD, hS⟩)
theorem al_lc (C : CallFix p m c cc nL s args Wl own) (hK : KN D vwCl (tyE cI cZ cQ) s) {v : Int} (hlv : 0 ≤ v ∧ v < 5) (hE : EW D vwCl A (wE cI cZ cQ ad T M Cc J Rr Ls) H0 H locs) {j x : Int} (hj : 0 ≤ j ∧ j < 4) (hv : g_lc Ls v j = x) (hdg : decode cc pc = .ok (.iaload, 1)) (k : W p l e R s m args below meth c H locs cells slots Q (F0 m (pc + 1) ls (.int (zI x) :: rest))) : W p l e R s m args below meth c H locs cells slots Q (F0 m pc ls (.int (zI j) :: .ref (ad (31 + v.toNat)) :: rest)) := by
  subst hv
  exact zx_iald C.1 C.2.1 hK.1 hE.1 (31 + v.toNat) 0 (wE_A hlv) rfl (by decide) hj hdg k
theorem as_lc (C : CallFix p m c cc nL s args Wl own) (hK : KN D vwCl (tyE cI cZ cQ) s) {v : Int} (hlv : 0 ≤ v ∧ v < 5) (hE : EW D vwCl A (wE cI cZ cQ ad T M Cc J Rr (lc, lz, lg)) H0 H locs) {j x : Int} (hj : 0 ≤ j ∧ j < 4) (hdg : decode cc pc = .ok (.iastore, 1)) (k : ∀ (H1 : Heap) (locs1 : List Loc), EW D vwCl A (wE cI cZ cQ ad T M Cc J Rr (iup2 lc v j x, lz, lg)) H0 H1 locs1 → W p l e R s m args below meth c H1 locs1 cells slots Q (F0 m (pc + 1) ls rest)) : W p l e R s m args below meth c H locs cells slots Q (F0 m pc ls (.int (zI x) :: .int (zI j) :: .ref (ad (31 + v.toNat)) :: rest)) :=
  zx_iast C.1 C.2.1 hK.1 hE.1 hE.2.1 hE.2.2 (31 + v.toNat) 0 (wE_A hlv) rfl (by decide) hj hdg (fun H1 locs1 hP hD hS => k H1 locs1 ⟨by rw [wE_A_lc hlv] at hP; exact hP, by rw [wE_A_lc hlv] at hD; exact hD, hS⟩)
theorem al_lists (C : CallFix p m c cc nL s args Wl own) (hK : KN D vwCl (tyE cI cZ cQ) s) (hE : EW D vwCl A (wE cI cZ cQ ad T M Cc J Rr Ls) H0 H locs) {j : Int} (hj : 0 ≤ j ∧ j < 5) (hdg : decode cc pc = .ok (.aaload, 1)) (k : W p l e R s m args below meth c H locs cells slots Q (F0 m (pc + 1) ls (.ref (ad (26 + j.toNat)) :: rest))) : W p l e R s m args below meth c H locs cells slots Q (F0 m pc ls (.int (zI j) :: .ref (ad 23) :: rest)) := by
  refine va_aldq C.1 C.2.1 hK.1 hE.1 23 2 rfl rfl (zI_in hj.1 hj.2 (by decide)) hdg ?_
  rw [zI_clamp hj.1 (by omega)]
  exact k
end
end
section
abbrev PTSt : Type := (Int → Int) × (Int → Int) × (Int → Int) × (Int → Int) × (Int → Int) × (Int → Int) × (Int → Int) × Int
abbrev g_mpar (s : PTSt) : Int → Int := s.1
abbrev g_mord (s : PTSt) : Int → Int := s.2.1
abbrev g_mrnd (s : PTSt) : Int → Int := s.2.2.1
abbrev g_mdln (s : PTSt) : Int → Int := s.2.2.2.1
abbrev g_mtag (s : PTSt) : Int → Int := s.2.2.2.2.1
abbrev g_mshr (s : PTSt) : Int → Int := s.2.2.2.2.2.1
abbrev g_mdis (s : PTSt) : Int → Int := s.2.2.2.2.2.2.1
abbrev g_mnod (s : PTSt) : Int := s.2.2.2.2.2.2.2
abbrev PMSt : Type := (Int → Int) × (Int → Int) × (Int → Int) × (Int → Int)
abbrev g_mthr (s : PMSt) : Int → Int := s.1
abbrev g_mres (s : PMSt) : Int → Int := s.2.1
abbrev g_mcod (s : PMSt) : Int → Int := s.2.2.1
abbrev g_mlas (s : PMSt) : Int → Int := s.2.2.2
abbrev PCSt : Type := (Int → Int) × Int
abbrev g_mcho (s : PCSt) : Int → Int := s.1
abbrev g_mtst (s : PCSt) : Int := s.2
abbrev PJSt : Type := (Int → Int) × (Int → Int) × Int × Int × Int × Int × Int × Int × Int
abbrev g_mevt (s : PJSt) : Int → Int := s.1
abbrev g_mevc (s : PJSt) : Int → Int := s.2.1
abbrev g_mev (s : PJSt) : Int := s.2.2.1
abbrev g_msuc (s : PJSt) : Int := s.2.2.2.1
abbrev g_mfai (s : PJSt) : Int := s.2.2.2.2.1
abbrev g_mabo (s : PJSt) : Int := s.2.2.2.2.2.1
abbrev g_mski (s : PJSt) : Int := s.2.2.2.2.2.2.1
abbrev g_mbad (s : PJSt) : Int := s.2.2.2.2.2.2.2.1
abbrev g_many (s : PJSt) : Int := s.2.2.2.2.2.2.2.2
abbrev PRSt : Type := (Int → Int) × (Int → Int) × (Int → Int) × Int × Int × Int × Int × Int
abbrev g_mlvl (s : PRSt) : Int → Int := s.1
abbrev g_mlch (s : PRSt) : Int → Int := s.2.1
abbrev g_mins (s : PRSt) : Int → Int := s.2.2.1
abbrev g_mlvs (s : PRSt) : Int := s.2.2.2.1
abbrev g_mtim (s : PRSt) : Int := s.2.2.2.2.1
abbrev g_mcal (s : PRSt) : Int := s.2.2.2.2.2.1
abbrev g_mmad (s : PRSt) : Int := s.2.2.2.2.2.2.1
abbrev g_mstp (s : PRSt) : Int := s.2.2.2.2.2.2.2
abbrev PLSt : Type := (Int → Int) × (Int → Int) × (Int → Int)
abbrev g_mco2 (s : PLSt) : Int → Int := s.1
abbrev g_mgav (s : PLSt) : Int → Int := s.2.1
abbrev g_mtro (s : PLSt) : Int → Int := s.2.2
def wM (cI cZ : ClassId) (am : Nat → Nat) (PT : PTSt) (PM : PMSt) (PC : PCSt) (PJ : PJSt) (PR : PRSt) (PL : PLSt) : va_W := [(am 0, .inr (7, [.ref (am 1), .ref (am 2), .ref (am 3), .ref (am 4), .ref (am 5), .ref (am 6), .ref (am 7), .ref (am 8), .ref (am 9), .ref (am 10), .ref (am 11), .ref (am 12), .int (zI (g_mnod PT)), .ref (am 13), .ref (am 14), .ref (am 15), .int (zI (g_mlvs PR)), .ref (am 16), .ref (am 17), .ref (am 18), .ref (am 19), .ref (am 20), .int (zI (g_mev PJ)), .int (zI (g_mtim PR)), .int (zI (g_mcal PR)), .int (zI (g_mmad PR)), .int (zI (g_msuc PJ)), .int (zI (g_mfai PJ)), .int (zI (g_mabo PJ)), .int (zI (g_mski PJ)), .int (zI (g_mbad PJ)), .int (zI (g_mtst PC)), .int (zI (g_mstp PR)), .int (zI (g_many PJ))])),
  (am 1, .inl (cI, 24, .inl (zA (g_mpar PT)))),
  (am 2, .inl (cI, 24, .inl (zA (g_mord PT)))),
  (am 3, .inl (cI, 24, .inl (zA (g_mrnd PT)))),
  (am 4, .inl (cI, 24, .inl (zA (g_mdln PT)))),
  (am 5, .inl (cI, 24, .inl (zA (g_mtag PT)))),
  (am 6, .inl (cZ, 24, .inl (zA (g_mshr PT)))),
  (am 7, .inl (cZ, 24, .inl (zA (g_mdis PT)))),
  (am 8, .inl (cZ, 24, .inl (zA (g_mcho PC)))),
  (am 9, .inl (cZ, 168, .inl (zA (g_mthr PM)))),
  (am 10, .inl (cI, 168, .inl (zA (g_mres PM)))),
  (am 11, .inl (cI, 168, .inl (zA (g_mcod PM)))),
  (am 12, .inl (cI, 168, .inl (zA (g_mlas PM)))),
  (am 13, .inl (cI, 5, .inl (zA (g_mlvl PR)))),
  (am 14, .inl (cI, 5, .inl (zA (g_mlch PR)))),
  (am 15, .inl (cI, 24, .inl (zA (g_mins PR)))),
  (am 16, .inl (cI, 20, .inl (zA (g_mco2 PL)))),
  (am 17, .inl (cI, 20, .inl (zA (g_mgav PL)))),
  (am 18, .inl (cI, 5, .inl (zA (g_mtro PL)))),
  (am 19, .inl (cI, 1200, .inl (zA (g_mevt PJ)))),
  (am 20, .inl (cI, 600, .inl (zA (g_mevc PJ))))]
def amL (am : Nat → Nat) : List Nat := [am 0, am 1, am 2, am 3, am 4, am 5, am 6, am 7, am 8, am 9, am 10, am 11, am 12, am 13, am 14, am 15, am 16, am 17, am 18, am 19, am 20]
theorem wM_L {cI cZ : ClassId} {am : Nat → Nat} {PT : PTSt} {PM : PMSt} {PC : PCSt} {PJ : PJSt} {PR : PRSt} {PL : PLSt} : (wM cI cZ am PT PM PC PJ PR PL).map Prod.fst = (amL am) := rfl
section
variable {p : Program} {l : Launch} {e : Env} {R : Room} {s : State} {m : MethodId} {args : Array Value} {below : List Frame} {meth : Method} {c : Code} {H H0 : Heap} {locs : List Loc} {cells slots : Nat} {Q : State → Prop} {cc : ByteArray} {pc nL : Nat} {ls : Array Slot} {rest : List Value} {D : va_G} {cI cZ cQ : ClassId} {A : Nat → Prop} {own : String}
variable {am : Nat → Nat} {PT : PTSt} {PM : PMSt} {PC : PCSt} {PJ : PJSt} {PR : PRSt} {PL : PLSt}
variable {mpar : Int → Int} {mord : Int → Int} {mrnd : Int → Int} {mdln : Int → Int} {mtag : Int → Int} {mshr : Int → Int} {mdis : Int → Int} {mnod : Int}
variable {mthr : Int → Int} {mres : Int → Int} {mcod : Int → Int} {mlas : Int → Int}
variable {mcho : Int → Int} {mtst : Int}
variable {mevt : Int → Int} {mevc : Int → Int} {mev : Int} {msuc : Int} {mfai : Int} {mabo : Int} {mski : Int} {mbad : Int} {many : Int}
variable {mlvl : Int → Int} {mlch : Int → Int} {mins : Int → Int} {mlvs : Int} {mtim : Int} {mcal : Int} {mmad : Int} {mstp : Int}
variable {mco2 : Int → Int} {mgav : Int → Int} {mtro : Int → Int}
theorem gf_Model_7 (C : CallFix p m c cc nL s args Wl R_Model) (hK : KN D vwCl (tyE cI cZ cQ) s) (hE : EW D vwCl A (wM cI cZ am PT PM PC PJ PR PL) H0 H locs) (hdg : decode cc pc = .ok (.getfield 7, 3)) (k : W p l e R s m args below meth c H locs cells slots Q (F0 m (pc + 3) ls (.ref (am 1) :: rest))) : W p l e R s m args below meth c H locs cells slots Q (F0 m pc ls (.ref (am 0) :: rest)) := by
  exact va_get (D := D) (ci := 7) (C := R_Model) (T := F_Model) (N := 34) C.1 C.2.1 C.2.2.2.2 in_Model C.2.2.2.1 hK.1 hE.1 0 rfl rfl 0 (by decide) (C.2.2.2.2 _ fl_Model_7) (fun _ h => h) rfl hdg k
theorem gf_Model_13 (C : CallFix p m c cc nL s args Wl R_Model) (hK : KN D vwCl (tyE cI cZ cQ) s) (hE : EW D vwCl A (wM cI cZ am PT PM PC PJ PR PL) H0 H locs) (hdg : decode cc pc = .ok (.getfield 13, 3)) (k : W p l e R s m args below meth c H locs cells slots Q (F0 m (pc + 3) ls (.ref (am 2) :: rest))) : W p l e R s m args below meth c H locs cells slots Q (F0 m pc ls (.ref (am 0) :: rest)) := by
  exact va_get (D := D) (ci := 7) (C := R_Model) (T := F_Model) (N := 34) C.1 C.2.1 C.2.2.2.2 in_Model C.2.2.2.1 hK.1 hE.1 0 rfl rfl 1 (by decide) (C.2.2.2.2 _ fl_Model_13) (fun _ h => h) rfl hdg k
theorem gf_Model_16 (C : CallFix p m c cc nL s args Wl R_Model) (hK : KN D vwCl (tyE cI cZ cQ) s) (hE : EW D vwCl A (wM cI cZ am PT PM PC PJ PR PL) H0 H locs) (hdg : decode cc pc = .ok (.getfield 16, 3)) (k : W p l e R s m args below meth c H locs cells slots Q (F0 m (pc + 3) ls (.ref (am 3) :: rest))) : W p l e R s m args below meth c H locs cells slots Q (F0 m pc ls (.ref (am 0) :: rest)) := by
  exact va_get (D := D) (ci := 7) (C := R_Model) (T := F_Model) (N := 34) C.1 C.2.1 C.2.2.2.2 in_Model C.2.2.2.1 hK.1 hE.1 0 rfl rfl 2 (by decide) (C.2.2.2.2 _ fl_Model_16) (fun _ h => h) rfl hdg k
theorem gf_Model_19 (C : CallFix p m c cc nL s args Wl R_Model) (hK : KN D vwCl (tyE cI cZ cQ) s) (hE : EW D vwCl A (wM cI cZ am PT PM PC PJ PR PL) H0 H locs) (hdg : decode cc pc = .ok (.getfield 19, 3)) (k : W p l e R s m args below meth c H locs cells slots Q (F0 m (pc + 3) ls (.ref (am 4) :: rest))) : W p l e R s m args below meth c H locs cells slots Q (F0 m pc ls (.ref (am 0) :: rest)) := by
  exact va_get (D := D) (ci := 7) (C := R_Model) (T := F_Model) (N := 34) C.1 C.2.1 C.2.2.2.2 in_Model C.2.2.2.1 hK.1 hE.1 0 rfl rfl 3 (by decide) (C.2.2.2.2 _ fl_Model_19) (fun _ h => h) rfl hdg k
theorem gf_Model_22 (C : CallFix p m c cc nL s args Wl R_Model) (hK : KN D vwCl (tyE cI cZ cQ) s) (hE : EW D vwCl A (wM cI cZ am PT PM PC PJ PR PL) H0 H locs) (hdg : decode cc pc = .ok (.getfield 22, 3)) (k : W p l e R s m args below meth c H locs cells slots Q (F0 m (pc + 3) ls (.ref (am 5) :: rest))) : W p l e R s m args below meth c H locs cells slots Q (F0 m pc ls (.ref (am 0) :: rest)) := by
  exact va_get (D := D) (ci := 7) (C := R_Model) (T := F_Model) (N := 34) C.1 C.2.1 C.2.2.2.2 in_Model C.2.2.2.1 hK.1 hE.1 0 rfl rfl 4 (by decide) (C.2.2.2.2 _ fl_Model_22) (fun _ h => h) rfl hdg k
theorem gf_Model_25 (C : CallFix p m c cc nL s args Wl R_Model) (hK : KN D vwCl (tyE cI cZ cQ) s) (hE : EW D vwCl A (wM cI cZ am PT PM PC PJ PR PL) H0 H locs) (hdg : decode cc pc = .ok (.getfield 25, 3)) (k : W p l e R s m args below meth c H locs cells slots Q (F0 m (pc + 3) ls (.ref (am 6) :: rest))) : W p l e R s m args below meth c H locs cells slots Q (F0 m pc ls (.ref (am 0) :: rest)) := by
  exact va_get (D := D) (ci := 7) (C := R_Model) (T := F_Model) (N := 34) C.1 C.2.1 C.2.2.2.2 in_Model C.2.2.2.1 hK.1 hE.1 0 rfl rfl 5 (by decide) (C.2.2.2.2 _ fl_Model_25) (fun _ h => h) rfl hdg k
theorem gf_Model_29 (C : CallFix p m c cc nL s args Wl R_Model) (hK : KN D vwCl (tyE cI cZ cQ) s) (hE : EW D vwCl A (wM cI cZ am PT PM PC PJ PR PL) H0 H locs) (hdg : decode cc pc = .ok (.getfield 29, 3)) (k : W p l e R s m args below meth c H locs cells slots Q (F0 m (pc + 3) ls (.ref (am 7) :: rest))) : W p l e R s m args below meth c H locs cells slots Q (F0 m pc ls (.ref (am 0) :: rest)) := by
  exact va_get (D := D) (ci := 7) (C := R_Model) (T := F_Model) (N := 34) C.1 C.2.1 C.2.2.2.2 in_Model C.2.2.2.1 hK.1 hE.1 0 rfl rfl 6 (by decide) (C.2.2.2.2 _ fl_Model_29) (fun _ h => h) rfl hdg k
theorem gf_Model_32 (C : CallFix p m c cc nL s args Wl R_Model) (hK : KN D vwCl (tyE cI cZ cQ) s) (hE : EW D vwCl A (wM cI cZ am PT PM PC PJ PR PL) H0 H locs) (hdg : decode cc pc = .ok (.getfield 32, 3)) (k : W p l e R s m args below meth c H locs cells slots Q (F0 m (pc + 3) ls (.ref (am 8) :: rest))) : W p l e R s m args below meth c H locs cells slots Q (F0 m pc ls (.ref (am 0) :: rest)) := by
  exact va_get (D := D) (ci := 7) (C := R_Model) (T := F_Model) (N := 34) C.1 C.2.1 C.2.2.2.2 in_Model C.2.2.2.1 hK.1 hE.1 0 rfl rfl 7 (by decide) (C.2.2.2.2 _ fl_Model_32) (fun _ h => h) rfl hdg k
theorem gf_Model_35 (C : CallFix p m c cc nL s args Wl R_Model) (hK : KN D vwCl (tyE cI cZ cQ) s) (hE : EW D vwCl A (wM cI cZ am PT PM PC PJ PR PL) H0 H locs) (hdg : decode cc pc = .ok (.getfield 35, 3)) (k : W p l e R s m args below meth c H locs cells slots Q (F0 m (pc + 3) ls (.ref (am 9) :: rest))) : W p l e R s m args below meth c H locs cells slots Q (F0 m pc ls (.ref (am 0) :: rest)) := by
  exact va_get (D := D) (ci := 7) (C := R_Model) (T := F_Model) (N := 34) C.1 C.2.1 C.2.2.2.2 in_Model C.2.2.2.1 hK.1 hE.1 0 rfl rfl 8 (by decide) (C.2.2.2.2 _ fl_Model_35) (fun _ h => h) rfl hdg k
theorem gf_Model_38 (C : CallFix p m c cc nL s args Wl R_Model) (hK : KN D vwCl (tyE cI cZ cQ) s) (hE : EW D vwCl A (wM cI cZ am PT PM PC PJ PR PL) H0 H locs) (hdg : decode cc pc = .ok (.getfield 38, 3)) (k : W p l e R s m args below meth c H locs cells slots Q (F0 m (pc + 3) ls (.ref (am 10) :: rest))) : W p l e R s m args below meth c H locs cells slots Q (F0 m pc ls (.ref (am 0) :: rest)) := by
  exact va_get (D := D) (ci := 7) (C := R_Model) (T := F_Model) (N := 34) C.1 C.2.1 C.2.2.2.2 in_Model C.2.2.2.1 hK.1 hE.1 0 rfl rfl 9 (by decide) (C.2.2.2.2 _ fl_Model_38) (fun _ h => h) rfl hdg k
theorem gf_Model_41 (C : CallFix p m c cc nL s args Wl R_Model) (hK : KN D vwCl (tyE cI cZ cQ) s) (hE : EW D vwCl A (wM cI cZ am PT PM PC PJ PR PL) H0 H locs) (hdg : decode cc pc = .ok (.getfield 41, 3)) (k : W p l e R s m args below meth c H locs cells slots Q (F0 m (pc + 3) ls (.ref (am 11) :: rest))) : W p l e R s m args below meth c H locs cells slots Q (F0 m pc ls (.ref (am 0) :: rest)) := by
  exact va_get (D := D) (ci := 7) (C := R_Model) (T := F_Model) (N := 34) C.1 C.2.1 C.2.2.2.2 in_Model C.2.2.2.1 hK.1 hE.1 0 rfl rfl 10 (by decide) (C.2.2.2.2 _ fl_Model_41) (fun _ h => h) rfl hdg k
theorem gf_Model_44 (C : CallFix p m c cc nL s args Wl R_Model) (hK : KN D vwCl (tyE cI cZ cQ) s) (hE : EW D vwCl A (wM cI cZ am PT PM PC PJ PR PL) H0 H locs) (hdg : decode cc pc = .ok (.getfield 44, 3)) (k : W p l e R s m args below meth c H locs cells slots Q (F0 m (pc + 3) ls (.ref (am 12) :: rest))) : W p l e R s m args below meth c H locs cells slots Q (F0 m pc ls (.ref (am 0) :: rest)) := by
  exact va_get (D := D) (ci := 7) (C := R_Model) (T := F_Model) (N := 34) C.1 C.2.1 C.2.2.2.2 in_Model C.2.2.2.1 hK.1 hE.1 0 rfl rfl 11 (by decide) (C.2.2.2.2 _ fl_Model_44) (fun _ h => h) rfl hdg k
theorem gf_Model_47 (C : CallFix p m c cc nL s args Wl R_Model) (hK : KN D vwCl (tyE cI cZ cQ) s) (hE : EW D vwCl A (wM cI cZ am PT PM PC PJ PR PL) H0 H locs) {x : Int} (hv : g_mnod PT = x) (hdg : decode cc pc = .ok (.getfield 47, 3)) (k : W p l e R s m args below meth c H locs cells slots Q (F0 m (pc + 3) ls (.int (zI x) :: rest))) : W p l e R s m args below meth c H locs cells slots Q (F0 m pc ls (.ref (am 0) :: rest)) := by
  subst hv
  exact va_get (D := D) (ci := 7) (C := R_Model) (T := F_Model) (N := 34) C.1 C.2.1 C.2.2.2.2 in_Model C.2.2.2.1 hK.1 hE.1 0 rfl rfl 12 (by decide) (C.2.2.2.2 _ fl_Model_47) (fun _ h => h) rfl hdg k
theorem gf_Model_51 (C : CallFix p m c cc nL s args Wl R_Model) (hK : KN D vwCl (tyE cI cZ cQ) s) (hE : EW D vwCl A (wM cI cZ am PT PM PC PJ PR PL) H0 H locs) (hdg : decode cc pc = .ok (.getfield 51, 3)) (k : W p l e R s m args below meth c H locs cells slots Q (F0 m (pc + 3) ls (.ref (am 13) :: rest))) : W p l e R s m args below meth c H locs cells slots Q (F0 m pc ls (.ref (am 0) :: rest)) := by
  exact va_get (D := D) (ci := 7) (C := R_Model) (T := F_Model) (N := 34) C.1 C.2.1 C.2.2.2.2 in_Model C.2.2.2.1 hK.1 hE.1 0 rfl rfl 13 (by decide) (C.2.2.2.2 _ fl_Model_51) (fun _ h => h) rfl hdg k
theorem gf_Model_54 (C : CallFix p m c cc nL s args Wl R_Model) (hK : KN D vwCl (tyE cI cZ cQ) s) (hE : EW D vwCl A (wM cI cZ am PT PM PC PJ PR PL) H0 H locs) (hdg : decode cc pc = .ok (.getfield 54, 3)) (k : W p l e R s m args below meth c H locs cells slots Q (F0 m (pc + 3) ls (.ref (am 14) :: rest))) : W p l e R s m args below meth c H locs cells slots Q (F0 m pc ls (.ref (am 0) :: rest)) := by
  exact va_get (D := D) (ci := 7) (C := R_Model) (T := F_Model) (N := 34) C.1 C.2.1 C.2.2.2.2 in_Model C.2.2.2.1 hK.1 hE.1 0 rfl rfl 14 (by decide) (C.2.2.2.2 _ fl_Model_54) (fun _ h => h) rfl hdg k
theorem gf_Model_57 (C : CallFix p m c cc nL s args Wl R_Model) (hK : KN D vwCl (tyE cI cZ cQ) s) (hE : EW D vwCl A (wM cI cZ am PT PM PC PJ PR PL) H0 H locs) (hdg : decode cc pc = .ok (.getfield 57, 3)) (k : W p l e R s m args below meth c H locs cells slots Q (F0 m (pc + 3) ls (.ref (am 15) :: rest))) : W p l e R s m args below meth c H locs cells slots Q (F0 m pc ls (.ref (am 0) :: rest)) := by
  exact va_get (D := D) (ci := 7) (C := R_Model) (T := F_Model) (N := 34) C.1 C.2.1 C.2.2.2.2 in_Model C.2.2.2.1 hK.1 hE.1 0 rfl rfl 15 (by decide) (C.2.2.2.2 _ fl_Model_57) (fun _ h => h) rfl hdg k
theorem gf_Model_60 (C : CallFix p m c cc nL s args Wl R_Model) (hK : KN D vwCl (tyE cI cZ cQ) s) (hE : EW D vwCl A (wM cI cZ am PT PM PC PJ PR PL) H0 H locs) (hdg : decode cc pc = .ok (.getfield 60, 3)) (k : W p l e R s m args below meth c H locs cells slots Q (F0 m (pc + 3) ls (.ref (am 16) :: rest))) : W p l e R s m args below meth c H locs cells slots Q (F0 m pc ls (.ref (am 0) :: rest)) := by
  exact va_get (D := D) (ci := 7) (C := R_Model) (T := F_Model) (N := 34) C.1 C.2.1 C.2.2.2.2 in_Model C.2.2.2.1 hK.1 hE.1 0 rfl rfl 17 (by decide) (C.2.2.2.2 _ fl_Model_60) (fun _ h => h) rfl hdg k
theorem gf_Model_63 (C : CallFix p m c cc nL s args Wl R_Model) (hK : KN D vwCl (tyE cI cZ cQ) s) (hE : EW D vwCl A (wM cI cZ am PT PM PC PJ PR PL) H0 H locs) (hdg : decode cc pc = .ok (.getfield 63, 3)) (k : W p l e R s m args below meth c H locs cells slots Q (F0 m (pc + 3) ls (.ref (am 17) :: rest))) : W p l e R s m args below meth c H locs cells slots Q (F0 m pc ls (.ref (am 0) :: rest)) := by
  exact va_get (D := D) (ci := 7) (C := R_Model) (T := F_Model) (N := 34) C.1 C.2.1 C.2.2.2.2 in_Model C.2.2.2.1 hK.1 hE.1 0 rfl rfl 18 (by decide) (C.2.2.2.2 _ fl_Model_63) (fun _ h => h) rfl hdg k
theorem gf_Model_66 (C : CallFix p m c cc nL s args Wl R_Model) (hK : KN D vwCl (tyE cI cZ cQ) s) (hE : EW D vwCl A (wM cI cZ am PT PM PC PJ PR PL) H0 H locs) (hdg : decode cc pc = .ok (.getfield 66, 3)) (k : W p l e R s m args below meth c H locs cells slots Q (F0 m (pc + 3) ls (.ref (am 18) :: rest))) : W p l e R s m args below meth c H locs cells slots Q (F0 m pc ls (.ref (am 0) :: rest)) := by
  exact va_get (D := D) (ci := 7) (C := R_Model) (T := F_Model) (N := 34) C.1 C.2.1 C.2.2.2.2 in_Model C.2.2.2.1 hK.1 hE.1 0 rfl rfl 19 (by decide) (C.2.2.2.2 _ fl_Model_66) (fun _ h => h) rfl hdg k
theorem gf_Model_69 (C : CallFix p m c cc nL s args Wl R_Model) (hK : KN D vwCl (tyE cI cZ cQ) s) (hE : EW D vwCl A (wM cI cZ am PT PM PC PJ PR PL) H0 H locs) (hdg : decode cc pc = .ok (.getfield 69, 3)) (k : W p l e R s m args below meth c H locs cells slots Q (F0 m (pc + 3) ls (.ref (am 19) :: rest))) : W p l e R s m args below meth c H locs cells slots Q (F0 m pc ls (.ref (am 0) :: rest)) := by
  exact va_get (D := D) (ci := 7) (C := R_Model) (T := F_Model) (N := 34) C.1 C.2.1 C.2.2.2.2 in_Model C.2.2.2.1 hK.1 hE.1 0 rfl rfl 20 (by decide) (C.2.2.2.2 _ fl_Model_69) (fun _ h => h) rfl hdg k
theorem gf_Model_72 (C : CallFix p m c cc nL s args Wl R_Model) (hK : KN D vwCl (tyE cI cZ cQ) s) (hE : EW D vwCl A (wM cI cZ am PT PM PC PJ PR PL) H0 H locs) (hdg : decode cc pc = .ok (.getfield 72, 3)) (k : W p l e R s m args below meth c H locs cells slots Q (F0 m (pc + 3) ls (.ref (am 20) :: rest))) : W p l e R s m args below meth c H locs cells slots Q (F0 m pc ls (.ref (am 0) :: rest)) := by
  exact va_get (D := D) (ci := 7) (C := R_Model) (T := F_Model) (N := 34) C.1 C.2.1 C.2.2.2.2 in_Model C.2.2.2.1 hK.1 hE.1 0 rfl rfl 21 (by decide) (C.2.2.2.2 _ fl_Model_72) (fun _ h => h) rfl hdg k
theorem gf_Model_90 (C : CallFix p m c cc nL s args Wl R_Model) (hK : KN D vwCl (tyE cI cZ cQ) s) (hE : EW D vwCl A (wM cI cZ am PT PM PC PJ PR PL) H0 H locs) {x : Int} (hv : g_mtst PC = x) (hdg : decode cc pc = .ok (.getfield 90, 3)) (k : W p l e R s m args below meth c H locs cells slots Q (F0 m (pc + 3) ls (.int (zI x) :: rest))) : W p l e R s m args below meth c H locs cells slots Q (F0 m pc ls (.ref (am 0) :: rest)) := by
  subst hv
  exact va_get (D := D) (ci := 7) (C := R_Model) (T := F_Model) (N := 34) C.1 C.2.1 C.2.2.2.2 in_Model C.2.2.2.1 hK.1 hE.1 0 rfl rfl 31 (by decide) (C.2.2.2.2 _ fl_Model_90) (fun _ h => h) rfl hdg k
theorem gf_Model_93 (C : CallFix p m c cc nL s args Wl R_Model) (hK : KN D vwCl (tyE cI cZ cQ) s) (hE : EW D vwCl A (wM cI cZ am PT PM PC PJ PR PL) H0 H locs) {x : Int} (hv : g_mcal PR = x) (hdg : decode cc pc = .ok (.getfield 93, 3)) (k : W p l e R s m args below meth c H locs cells slots Q (F0 m (pc + 3) ls (.int (zI x) :: rest))) : W p l e R s m args below meth c H locs cells slots Q (F0 m pc ls (.ref (am 0) :: rest)) := by
  subst hv
  exact va_get (D := D) (ci := 7) (C := R_Model) (T := F_Model) (N := 34) C.1 C.2.1 C.2.2.2.2 in_Model C.2.2.2.1 hK.1 hE.1 0 rfl rfl 24 (by decide) (C.2.2.2.2 _ fl_Model_93) (fun _ h => h) rfl hdg k
theorem gf_Model_96 (C : CallFix p m c cc nL s args Wl R_Model) (hK : KN D vwCl (tyE cI cZ cQ) s) (hE : EW D vwCl A (wM cI cZ am PT PM PC PJ PR PL) H0 H locs) {x : Int} (hv : g_mtim PR = x) (hdg : decode cc pc = .ok (.getfield 96, 3)) (k : W p l e R s m args below meth c H locs cells slots Q (F0 m (pc + 3) ls (.int (zI x) :: rest))) : W p l e R s m args below meth c H locs cells slots Q (F0 m pc ls (.ref (am 0) :: rest)) := by
  subst hv
  exact va_get (D := D) (ci := 7) (C := R_Model) (T := F_Model) (N := 34) C.1 C.2.1 C.2.2.2.2 in_Model C.2.2.2.1 hK.1 hE.1 0 rfl rfl 23 (by decide) (C.2.2.2.2 _ fl_Model_96) (fun _ h => h) rfl hdg k
theorem gf_Model_103 (C : CallFix p m c cc nL s args Wl R_Model) (hK : KN D vwCl (tyE cI cZ cQ) s) (hE : EW D vwCl A (wM cI cZ am PT PM PC PJ PR PL) H0 H locs) {x : Int} (hv : g_mev PJ = x) (hdg : decode cc pc = .ok (.getfield 103, 3)) (k : W p l e R s m args below meth c H locs cells slots Q (F0 m (pc + 3) ls (.int (zI x) :: rest))) : W p l e R s m args below meth c H locs cells slots Q (F0 m pc ls (.ref (am 0) :: rest)) := by
  subst hv
  exact va_get (D := D) (ci := 7) (C := R_Model) (T := F_Model) (N := 34) C.1 C.2.1 C.2.2.2.2 in_Model C.2.2.2.1 hK.1 hE.1 0 rfl rfl 22 (by decide) (C.2.2.2.2 _ fl_Model_103) (fun _ h => h) rfl hdg k
theorem gf_Model_106 (C : CallFix p m c cc nL s args Wl R_Model) (hK : KN D vwCl (tyE cI cZ cQ) s) (hE : EW D vwCl A (wM cI cZ am PT PM PC PJ PR PL) H0 H locs) {x : Int} (hv : g_mski PJ = x) (hdg : decode cc pc = .ok (.getfield 106, 3)) (k : W p l e R s m args below meth c H locs cells slots Q (F0 m (pc + 3) ls (.int (zI x) :: rest))) : W p l e R s m args below meth c H locs cells slots Q (F0 m pc ls (.ref (am 0) :: rest)) := by
  subst hv
  exact va_get (D := D) (ci := 7) (C := R_Model) (T := F_Model) (N := 34) C.1 C.2.1 C.2.2.2.2 in_Model C.2.2.2.1 hK.1 hE.1 0 rfl rfl 29 (by decide) (C.2.2.2.2 _ fl_Model_106) (fun _ h => h) rfl hdg k
theorem gf_Model_116 (C : CallFix p m c cc nL s args Wl R_Model) (hK : KN D vwCl (tyE cI cZ cQ) s) (hE : EW D vwCl A (wM cI cZ am PT PM PC PJ PR PL) H0 H locs) {x : Int} (hv : g_many PJ = x) (hdg : decode cc pc = .ok (.getfield 116, 3)) (k : W p l e R s m args below meth c H locs cells slots Q (F0 m (pc + 3) ls (.int (zI x) :: rest))) : W p l e R s m args below meth c H locs cells slots Q (F0 m pc ls (.ref (am 0) :: rest)) := by
  subst hv
  exact va_get (D := D) (ci := 7) (C := R_Model) (T := F_Model) (N := 34) C.1 C.2.1 C.2.2.2.2 in_Model C.2.2.2.1 hK.1 hE.1 0 rfl rfl 33 (by decide) (C.2.2.2.2 _ fl_Model_116) (fun _ h => h) rfl hdg k
theorem gf_Model_120 (C : CallFix p m c cc nL s args Wl R_Model) (hK : KN D vwCl (tyE cI cZ cQ) s) (hE : EW D vwCl A (wM cI cZ am PT PM PC PJ PR PL) H0 H locs) {x : Int} (hv : g_mbad PJ = x) (hdg : decode cc pc = .ok (.getfield 120, 3)) (k : W p l e R s m args below meth c H locs cells slots Q (F0 m (pc + 3) ls (.int (zI x) :: rest))) : W p l e R s m args below meth c H locs cells slots Q (F0 m pc ls (.ref (am 0) :: rest)) := by
  subst hv
  exact va_get (D := D) (ci := 7) (C := R_Model) (T := F_Model) (N := 34) C.1 C.2.1 C.2.2.2.2 in_Model C.2.2.2.1 hK.1 hE.1 0 rfl rfl 30 (by decide) (C.2.2.2.2 _ fl_Model_120) (fun _ h => h) rfl hdg k
theorem gf_Model_123 (C : CallFix p m c cc nL s args Wl R_Model) (hK : KN D vwCl (tyE cI cZ cQ) s) (hE : EW D vwCl A (wM cI cZ am PT PM PC PJ PR PL) H0 H locs) {x : Int} (hv : g_msuc PJ = x) (hdg : decode cc pc = .ok (.getfield 123, 3)) (k : W p l e R s m args below meth c H locs cells slots Q (F0 m (pc + 3) ls (.int (zI x) :: rest))) : W p l e R s m args below meth c H locs cells slots Q (F0 m pc ls (.ref (am 0) :: rest)) := by
  subst hv
  exact va_get (D := D) (ci := 7) (C := R_Model) (T := F_Model) (N := 34) C.1 C.2.1 C.2.2.2.2 in_Model C.2.2.2.1 hK.1 hE.1 0 rfl rfl 26 (by decide) (C.2.2.2.2 _ fl_Model_123) (fun _ h => h) rfl hdg k
theorem gf_Model_126 (C : CallFix p m c cc nL s args Wl R_Model) (hK : KN D vwCl (tyE cI cZ cQ) s) (hE : EW D vwCl A (wM cI cZ am PT PM PC PJ PR PL) H0 H locs) {x : Int} (hv : g_mfai PJ = x) (hdg : decode cc pc = .ok (.getfield 126, 3)) (k : W p l e R s m args below meth c H locs cells slots Q (F0 m (pc + 3) ls (.int (zI x) :: rest))) : W p l e R s m args below meth c H locs cells slots Q (F0 m pc ls (.ref (am 0) :: rest)) := by
  subst hv
  exact va_get (D := D) (ci := 7) (C := R_Model) (T := F_Model) (N := 34) C.1 C.2.1 C.2.2.2.2 in_Model C.2.2.2.1 hK.1 hE.1 0 rfl rfl 27 (by decide) (C.2.2.2.2 _ fl_Model_126) (fun _ h => h) rfl hdg k
theorem gf_Model_129 (C : CallFix p m c cc nL s args Wl R_Model) (hK : KN D vwCl (tyE cI cZ cQ) s) (hE : EW D vwCl A (wM cI cZ am PT PM PC PJ PR PL) H0 H locs) {x : Int} (hv : g_mabo PJ = x) (hdg : decode cc pc = .ok (.getfield 129, 3)) (k : W p l e R s m args below meth c H locs cells slots Q (F0 m (pc + 3) ls (.int (zI x) :: rest))) : W p l e R s m args below meth c H locs cells slots Q (F0 m pc ls (.ref (am 0) :: rest)) := by
  subst hv
  exact va_get (D := D) (ci := 7) (C := R_Model) (T := F_Model) (N := 34) C.1 C.2.1 C.2.2.2.2 in_Model C.2.2.2.1 hK.1 hE.1 0 rfl rfl 28 (by decide) (C.2.2.2.2 _ fl_Model_129) (fun _ h => h) rfl hdg k
theorem gf_Model_132 (C : CallFix p m c cc nL s args Wl R_Model) (hK : KN D vwCl (tyE cI cZ cQ) s) (hE : EW D vwCl A (wM cI cZ am PT PM PC PJ PR PL) H0 H locs) {x : Int} (hv : g_mstp PR = x) (hdg : decode cc pc = .ok (.getfield 132, 3)) (k : W p l e R s m args below meth c H locs cells slots Q (F0 m (pc + 3) ls (.int (zI x) :: rest))) : W p l e R s m args below meth c H locs cells slots Q (F0 m pc ls (.ref (am 0) :: rest)) := by
  subst hv
  exact va_get (D := D) (ci := 7) (C := R_Model) (T := F_Model) (N := 34) C.1 C.2.1 C.2.2.2.2 in_Model C.2.2.2.1 hK.1 hE.1 0 rfl rfl 32 (by decide) (C.2.2.2.2 _ fl_Model_132) (fun _ h => h) rfl hdg k
theorem gf_Model_135 (C : CallFix p m c cc nL s args Wl R_Model) (hK : KN D vwCl (tyE cI cZ cQ) s) (hE : EW D vwCl A (wM cI cZ am PT PM PC PJ PR PL) H0 H locs) {x : Int} (hv : g_mlvs PR = x) (hdg : decode cc pc = .ok (.getfield 135, 3)) (k : W p l e R s m args below meth c H locs cells slots Q (F0 m (pc + 3) ls (.int (zI x) :: rest))) : W p l e R s m args below meth c H locs cells slots Q (F0 m pc ls (.ref (am 0) :: rest)) := by
  subst hv
  exact va_get (D := D) (ci := 7) (C := R_Model) (T := F_Model) (N := 34) C.1 C.2.1 C.2.2.2.2 in_Model C.2.2.2.1 hK.1 hE.1 0 rfl rfl 16 (by decide) (C.2.2.2.2 _ fl_Model_135) (fun _ h => h) rfl hdg k
theorem gf_Model_138 (C : CallFix p m c cc nL s args Wl R_Model) (hK : KN D vwCl (tyE cI cZ cQ) s) (hE : EW D vwCl A (wM cI cZ am PT PM PC PJ PR PL) H0 H locs) {x : Int} (hv : g_mmad PR = x) (hdg : decode cc pc = .ok (.getfield 138, 3)) (k : W p l e R s m args below meth c H locs cells slots Q (F0 m (pc + 3) ls (.int (zI x) :: rest))) : W p l e R s m args below meth c H locs cells slots Q (F0 m pc ls (.ref (am 0) :: rest)) := by
  subst hv
  exact va_get (D := D) (ci := 7) (C := R_Model) (T := F_Model) (N := 34) C.1 C.2.1 C.2.2.2.2 in_Model C.2.2.2.1 hK.1 hE.1 0 rfl rfl 25 (by decide) (C.2.2.2.2 _ fl_Model_138) (fun _ h => h) rfl hdg k
theorem pf_Model_47 (C : CallFix p m c cc nL s args Wl R_Model) (hK : KN D vwCl (tyE cI cZ cQ) s) (hE : EW D vwCl A (wM cI cZ am (mpar, mord, mrnd, mdln, mtag, mshr, mdis, mnod) PM PC PJ PR PL) H0 H locs) {x : Int} (hdg : decode cc pc = .ok (.putfield 47, 3)) (k : ∀ (H1 : Heap) (locs1 : List Loc), EW D vwCl A (wM cI cZ am (mpar, mord, mrnd, mdln, mtag, mshr, mdis, x) PM PC PJ PR PL) H0 H1 locs1 → W p l e R s m args below meth c H1 locs1 cells slots Q (F0 m (pc + 3) ls rest)) : W p l e R s m args below meth c H locs cells slots Q (F0 m pc ls (.int (zI x) :: .ref (am 0) :: rest)) :=
  va_put (D := D) (ci := 7) (v := .int (zI x)) (ty := .int) (C := R_Model) (T := F_Model) (N := 34) C.1 C.2.1 C.2.2.2.2 in_Model t_Model t_Model_ok n_Model C.2.2.2.1 hK.1 hE.1 hE.2.1 hE.2.2 0 rfl rfl 12 (by decide) (C.2.2.2.2 _ fl_Model_47) (fun _ h => h) rfl (by decide +kernel) rfl rfl (Nat.le_of_ble_eq_true rfl) hdg (fun H1 locs1 hP hD hS => k H1 locs1 ⟨hP, hD, hS⟩)
theorem pf_Model_90 (C : CallFix p m c cc nL s args Wl R_Model) (hK : KN D vwCl (tyE cI cZ cQ) s) (hE : EW D vwCl A (wM cI cZ am PT PM (mcho, mtst) PJ PR PL) H0 H locs) {x : Int} (hdg : decode cc pc = .ok (.putfield 90, 3)) (k : ∀ (H1 : Heap) (locs1 : List Loc), EW D vwCl A (wM cI cZ am PT PM (mcho, x) PJ PR PL) H0 H1 locs1 → W p l e R s m args below meth c H1 locs1 cells slots Q (F0 m (pc + 3) ls rest)) : W p l e R s m args below meth c H locs cells slots Q (F0 m pc ls (.int (zI x) :: .ref (am 0) :: rest)) :=
  va_put (D := D) (ci := 7) (v := .int (zI x)) (ty := .int) (C := R_Model) (T := F_Model) (N := 34) C.1 C.2.1 C.2.2.2.2 in_Model t_Model t_Model_ok n_Model C.2.2.2.1 hK.1 hE.1 hE.2.1 hE.2.2 0 rfl rfl 31 (by decide) (C.2.2.2.2 _ fl_Model_90) (fun _ h => h) rfl (by decide +kernel) rfl rfl (Nat.le_of_ble_eq_true rfl) hdg (fun H1 locs1 hP hD hS => k H1 locs1 ⟨hP, hD, hS⟩)
theorem pf_Model_93 (C : CallFix p m c cc nL s args Wl R_Model) (hK : KN D vwCl (tyE cI cZ cQ) s) (hE : EW D vwCl A (wM cI cZ am PT PM PC PJ (mlvl, mlch, mins, mlvs, mtim, mcal, mmad, mstp) PL) H0 H locs) {x : Int} (hdg : decode cc pc = .ok (.putfield 93, 3)) (k : ∀ (H1 : Heap) (locs1 : List Loc), EW D vwCl A (wM cI cZ am PT PM PC PJ (mlvl, mlch, mins, mlvs, mtim, x, mmad, mstp) PL) H0 H1 locs1 → W p l e R s m args below meth c H1 locs1 cells slots Q (F0 m (pc + 3) ls rest)) : W p l e R s m args below meth c H locs cells slots Q (F0 m pc ls (.int (zI x) :: .ref (am 0) :: rest)) :=
  va_put (D := D) (ci := 7) (v := .int (zI x)) (ty := .int) (C := R_Model) (T := F_Model) (N := 34) C.1 C.2.1 C.2.2.2.2 in_Model t_Model t_Model_ok n_Model C.2.2.2.1 hK.1 hE.1 hE.2.1 hE.2.2 0 rfl rfl 24 (by decide) (C.2.2.2.2 _ fl_Model_93) (fun _ h => h) rfl (by decide +kernel) rfl rfl (Nat.le_of_ble_eq_true rfl) hdg (fun H1 locs1 hP hD hS => k H1 locs1 ⟨hP, hD, hS⟩)
theorem pf_Model_96 (C : CallFix p m c cc nL s args Wl R_Model) (hK : KN D vwCl (tyE cI cZ cQ) s) (hE : EW D vwCl A (wM cI cZ am PT PM PC PJ (mlvl, mlch, mins, mlvs, mtim, mcal, mmad, mstp) PL) H0 H locs) {x : Int} (hdg : decode cc pc = .ok (.putfield 96, 3)) (k : ∀ (H1 : Heap) (locs1 : List Loc), EW D vwCl A (wM cI cZ am PT PM PC PJ (mlvl, mlch, mins, mlvs, x, mcal, mmad, mstp) PL) H0 H1 locs1 → W p l e R s m args below meth c H1 locs1 cells slots Q (F0 m (pc + 3) ls rest)) : W p l e R s m args below meth c H locs cells slots Q (F0 m pc ls (.int (zI x) :: .ref (am 0) :: rest)) :=
  va_put (D := D) (ci := 7) (v := .int (zI x)) (ty := .int) (C := R_Model) (T := F_Model) (N := 34) C.1 C.2.1 C.2.2.2.2 in_Model t_Model t_Model_ok n_Model C.2.2.2.1 hK.1 hE.1 hE.2.1 hE.2.2 0 rfl rfl 23 (by decide) (C.2.2.2.2 _ fl_Model_96) (fun _ h => h) rfl (by decide +kernel) rfl rfl (Nat.le_of_ble_eq_true rfl) hdg (fun H1 locs1 hP hD hS => k H1 locs1 ⟨hP, hD, hS⟩)
theorem pf_Model_103 (C : CallFix p m c cc nL s args Wl R_Model) (hK : KN D vwCl (tyE cI cZ cQ) s) (hE : EW D vwCl A (wM cI cZ am PT PM PC (mevt, mevc, mev, msuc, mfai, mabo, mski, mbad, many) PR PL) H0 H locs) {x : Int} (hdg : decode cc pc = .ok (.putfield 103, 3)) (k : ∀ (H1 : Heap) (locs1 : List Loc), EW D vwCl A (wM cI cZ am PT PM PC (mevt, mevc, x, msuc, mfai, mabo, mski, mbad, many) PR PL) H0 H1 locs1 → W p l e R s m args below meth c H1 locs1 cells slots Q (F0 m (pc + 3) ls rest)) : W p l e R s m args below meth c H locs cells slots Q (F0 m pc ls (.int (zI x) :: .ref (am 0) :: rest)) :=
  va_put (D := D) (ci := 7) (v := .int (zI x)) (ty := .int) (C := R_Model) (T := F_Model) (N := 34) C.1 C.2.1 C.2.2.2.2 in_Model t_Model t_Model_ok n_Model C.2.2.2.1 hK.1 hE.1 hE.2.1 hE.2.2 0 rfl rfl 22 (by decide) (C.2.2.2.2 _ fl_Model_103) (fun _ h => h) rfl (by decide +kernel) rfl rfl (Nat.le_of_ble_eq_true rfl) hdg (fun H1 locs1 hP hD hS => k H1 locs1 ⟨hP, hD, hS⟩)
theorem pf_Model_106 (C : CallFix p m c cc nL s args Wl R_Model) (hK : KN D vwCl (tyE cI cZ cQ) s) (hE : EW D vwCl A (wM cI cZ am PT PM PC (mevt, mevc, mev, msuc, mfai, mabo, mski, mbad, many) PR PL) H0 H locs) {x : Int} (hdg : decode cc pc = .ok (.putfield 106, 3)) (k : ∀ (H1 : Heap) (locs1 : List Loc), EW D vwCl A (wM cI cZ am PT PM PC (mevt, mevc, mev, msuc, mfai, mabo, x, mbad, many) PR PL) H0 H1 locs1 → W p l e R s m args below meth c H1 locs1 cells slots Q (F0 m (pc + 3) ls rest)) : W p l e R s m args below meth c H locs cells slots Q (F0 m pc ls (.int (zI x) :: .ref (am 0) :: rest)) :=
  va_put (D := D) (ci := 7) (v := .int (zI x)) (ty := .int) (C := R_Model) (T := F_Model) (N := 34) C.1 C.2.1 C.2.2.2.2 in_Model t_Model t_Model_ok n_Model C.2.2.2.1 hK.1 hE.1 hE.2.1 hE.2.2 0 rfl rfl 29 (by decide) (C.2.2.2.2 _ fl_Model_106) (fun _ h => h) rfl (by decide +kernel) rfl rfl (Nat.le_of_ble_eq_true rfl) hdg (fun H1 locs1 hP hD hS => k H1 locs1 ⟨hP, hD, hS⟩)
theorem pf_Model_116 (C : CallFix p m c cc nL s args Wl R_Model) (hK : KN D vwCl (tyE cI cZ cQ) s) (hE : EW D vwCl A (wM cI cZ am PT PM PC (mevt, mevc, mev, msuc, mfai, mabo, mski, mbad, many) PR PL) H0 H locs) {x : Int} (hv : x = 0 ∨ x = 1) (hdg : decode cc pc = .ok (.putfield 116, 3)) (k : ∀ (H1 : Heap) (locs1 : List Loc), EW D vwCl A (wM cI cZ am PT PM PC (mevt, mevc, mev, msuc, mfai, mabo, mski, mbad, x) PR PL) H0 H1 locs1 → W p l e R s m args below meth c H1 locs1 cells slots Q (F0 m (pc + 3) ls rest)) : W p l e R s m args below meth c H locs cells slots Q (F0 m pc ls (.int (zI x) :: .ref (am 0) :: rest)) :=
  va_put (D := D) (ci := 7) (v := .int (zI x)) (ty := .boolean) (C := R_Model) (T := F_Model) (N := 34) C.1 C.2.1 C.2.2.2.2 in_Model t_Model t_Model_ok n_Model C.2.2.2.1 hK.1 hE.1 hE.2.1 hE.2.2 0 rfl rfl 33 (by decide) (C.2.2.2.2 _ fl_Model_116) (fun _ h => h) rfl (by decide +kernel) (zB_nar hv) (zB_fit hv) (Nat.le_of_ble_eq_true rfl) hdg (fun H1 locs1 hP hD hS => k H1 locs1 ⟨hP, hD, hS⟩)
theorem pf_Model_120 (C : CallFix p m c cc nL s args Wl R_Model) (hK : KN D vwCl (tyE cI cZ cQ) s) (hE : EW D vwCl A (wM cI cZ am PT PM PC (mevt, mevc, mev, msuc, mfai, mabo, mski, mbad, many) PR PL) H0 H locs) {x : Int} (hdg : decode cc pc = .ok (.putfield 120, 3)) (k : ∀ (H1 : Heap) (locs1 : List Loc), EW D vwCl A (wM cI cZ am PT PM PC (mevt, mevc, mev, msuc, mfai, mabo, mski, x, many) PR PL) H0 H1 locs1 → W p l e R s m args below meth c H1 locs1 cells slots Q (F0 m (pc + 3) ls rest)) : W p l e R s m args below meth c H locs cells slots Q (F0 m pc ls (.int (zI x) :: .ref (am 0) :: rest)) :=
  va_put (D := D) (ci := 7) (v := .int (zI x)) (ty := .int) (C := R_Model) (T := F_Model) (N := 34) C.1 C.2.1 C.2.2.2.2 in_Model t_Model t_Model_ok n_Model C.2.2.2.1 hK.1 hE.1 hE.2.1 hE.2.2 0 rfl rfl 30 (by decide) (C.2.2.2.2 _ fl_Model_120) (fun _ h => h) rfl (by decide +kernel) rfl rfl (Nat.le_of_ble_eq_true rfl) hdg (fun H1 locs1 hP hD hS => k H1 locs1 ⟨hP, hD, hS⟩)
theorem pf_Model_123 (C : CallFix p m c cc nL s args Wl R_Model) (hK : KN D vwCl (tyE cI cZ cQ) s) (hE : EW D vwCl A (wM cI cZ am PT PM PC (mevt, mevc, mev, msuc, mfai, mabo, mski, mbad, many) PR PL) H0 H locs) {x : Int} (hdg : decode cc pc = .ok (.putfield 123, 3)) (k : ∀ (H1 : Heap) (locs1 : List Loc), EW D vwCl A (wM cI cZ am PT PM PC (mevt, mevc, mev, x, mfai, mabo, mski, mbad, many) PR PL) H0 H1 locs1 → W p l e R s m args below meth c H1 locs1 cells slots Q (F0 m (pc + 3) ls rest)) : W p l e R s m args below meth c H locs cells slots Q (F0 m pc ls (.int (zI x) :: .ref (am 0) :: rest)) :=
  va_put (D := D) (ci := 7) (v := .int (zI x)) (ty := .int) (C := R_Model) (T := F_Model) (N := 34) C.1 C.2.1 C.2.2.2.2 in_Model t_Model t_Model_ok n_Model C.2.2.2.1 hK.1 hE.1 hE.2.1 hE.2.2 0 rfl rfl 26 (by decide) (C.2.2.2.2 _ fl_Model_123) (fun _ h => h) rfl (by decide +kernel) rfl rfl (Nat.le_of_ble_eq_true rfl) hdg (fun H1 locs1 hP hD hS => k H1 locs1 ⟨hP, hD, hS⟩)
theorem pf_Model_126 (C : CallFix p m c cc nL s args Wl R_Model) (hK : KN D vwCl (tyE cI cZ cQ) s) (hE : EW D vwCl A (wM cI cZ am PT PM PC (mevt, mevc, mev, msuc, mfai, mabo, mski, mbad, many) PR PL) H0 H locs) {x : Int} (hdg : decode cc pc = .ok (.putfield 126, 3)) (k : ∀ (H1 : Heap) (locs1 : List Loc), EW D vwCl A (wM cI cZ am PT PM PC (mevt, mevc, mev, msuc, x, mabo, mski, mbad, many) PR PL) H0 H1 locs1 → W p l e R s m args below meth c H1 locs1 cells slots Q (F0 m (pc + 3) ls rest)) : W p l e R s m args below meth c H locs cells slots Q (F0 m pc ls (.int (zI x) :: .ref (am 0) :: rest)) :=
  va_put (D := D) (ci := 7) (v := .int (zI x)) (ty := .int) (C := R_Model) (T := F_Model) (N := 34) C.1 C.2.1 C.2.2.2.2 in_Model t_Model t_Model_ok n_Model C.2.2.2.1 hK.1 hE.1 hE.2.1 hE.2.2 0 rfl rfl 27 (by decide) (C.2.2.2.2 _ fl_Model_126) (fun _ h => h) rfl (by decide +kernel) rfl rfl (Nat.le_of_ble_eq_true rfl) hdg (fun H1 locs1 hP hD hS => k H1 locs1 ⟨hP, hD, hS⟩)
theorem pf_Model_129 (C : CallFix p m c cc nL s args Wl R_Model) (hK : KN D vwCl (tyE cI cZ cQ) s) (hE : EW D vwCl A (wM cI cZ am PT PM PC (mevt, mevc, mev, msuc, mfai, mabo, mski, mbad, many) PR PL) H0 H locs) {x : Int} (hdg : decode cc pc = .ok (.putfield 129, 3)) (k : ∀ (H1 : Heap) (locs1 : List Loc), EW D vwCl A (wM cI cZ am PT PM PC (mevt, mevc, mev, msuc, mfai, x, mski, mbad, many) PR PL) H0 H1 locs1 → W p l e R s m args below meth c H1 locs1 cells slots Q (F0 m (pc + 3) ls rest)) : W p l e R s m args below meth c H locs cells slots Q (F0 m pc ls (.int (zI x) :: .ref (am 0) :: rest)) :=
  va_put (D := D) (ci := 7) (v := .int (zI x)) (ty := .int) (C := R_Model) (T := F_Model) (N := 34) C.1 C.2.1 C.2.2.2.2 in_Model t_Model t_Model_ok n_Model C.2.2.2.1 hK.1 hE.1 hE.2.1 hE.2.2 0 rfl rfl 28 (by decide) (C.2.2.2.2 _ fl_Model_129) (fun _ h => h) rfl (by decide +kernel) rfl rfl (Nat.le_of_ble_eq_true rfl) hdg (fun H1 locs1 hP hD hS => k H1 locs1 ⟨hP, hD, hS⟩)
theorem pf_Model_132 (C : CallFix p m c cc nL s args Wl R_Model) (hK : KN D vwCl (tyE cI cZ cQ) s) (hE : EW D vwCl A (wM cI cZ am PT PM PC PJ (mlvl, mlch, mins, mlvs, mtim, mcal, mmad, mstp) PL) H0 H locs) {x : Int} (hdg : decode cc pc = .ok (.putfield 132, 3)) (k : ∀ (H1 : Heap) (locs1 : List Loc), EW D vwCl A (wM cI cZ am PT PM PC PJ (mlvl, mlch, mins, mlvs, mtim, mcal, mmad, x) PL) H0 H1 locs1 → W p l e R s m args below meth c H1 locs1 cells slots Q (F0 m (pc + 3) ls rest)) : W p l e R s m args below meth c H locs cells slots Q (F0 m pc ls (.int (zI x) :: .ref (am 0) :: rest)) :=
  va_put (D := D) (ci := 7) (v := .int (zI x)) (ty := .int) (C := R_Model) (T := F_Model) (N := 34) C.1 C.2.1 C.2.2.2.2 in_Model t_Model t_Model_ok n_Model C.2.2.2.1 hK.1 hE.1 hE.2.1 hE.2.2 0 rfl rfl 32 (by decide) (C.2.2.2.2 _ fl_Model_132) (fun _ h => h) rfl (by decide +kernel) rfl rfl (Nat.le_of_ble_eq_true rfl) hdg (fun H1 locs1 hP hD hS => k H1 locs1 ⟨hP, hD, hS⟩)
theorem pf_Model_135 (C : CallFix p m c cc nL s args Wl R_Model) (hK : KN D vwCl (tyE cI cZ cQ) s) (hE : EW D vwCl A (wM cI cZ am PT PM PC PJ (mlvl, mlch, mins, mlvs, mtim, mcal, mmad, mstp) PL) H0 H locs) {x : Int} (hdg : decode cc pc = .ok (.putfield 135, 3)) (k : ∀ (H1 : Heap) (locs1 : List Loc), EW D vwCl A (wM cI cZ am PT PM PC PJ (mlvl, mlch, mins, x, mtim, mcal, mmad, mstp) PL) H0 H1 locs1 → W p l e R s m args below meth c H1 locs1 cells slots Q (F0 m (pc + 3) ls rest)) : W p l e R s m args below meth c H locs cells slots Q (F0 m pc ls (.int (zI x) :: .ref (am 0) :: rest)) :=
  va_put (D := D) (ci := 7) (v := .int (zI x)) (ty := .int) (C := R_Model) (T := F_Model) (N := 34) C.1 C.2.1 C.2.2.2.2 in_Model t_Model t_Model_ok n_Model C.2.2.2.1 hK.1 hE.1 hE.2.1 hE.2.2 0 rfl rfl 16 (by decide) (C.2.2.2.2 _ fl_Model_135) (fun _ h => h) rfl (by decide +kernel) rfl rfl (Nat.le_of_ble_eq_true rfl) hdg (fun H1 locs1 hP hD hS => k H1 locs1 ⟨hP, hD, hS⟩)
theorem pf_Model_138 (C : CallFix p m c cc nL s args Wl R_Model) (hK : KN D vwCl (tyE cI cZ cQ) s) (hE : EW D vwCl A (wM cI cZ am PT PM PC PJ (mlvl, mlch, mins, mlvs, mtim, mcal, mmad, mstp) PL) H0 H locs) {x : Int} (hdg : decode cc pc = .ok (.putfield 138, 3)) (k : ∀ (H1 : Heap) (locs1 : List Loc), EW D vwCl A (wM cI cZ am PT PM PC PJ (mlvl, mlch, mins, mlvs, mtim, mcal, x, mstp) PL) H0 H1 locs1 → W p l e R s m args below meth c H1 locs1 cells slots Q (F0 m (pc + 3) ls rest)) : W p l e R s m args below meth c H locs cells slots Q (F0 m pc ls (.int (zI x) :: .ref (am 0) :: rest)) :=
  va_put (D := D) (ci := 7) (v := .int (zI x)) (ty := .int) (C := R_Model) (T := F_Model) (N := 34) C.1 C.2.1 C.2.2.2.2 in_Model t_Model t_Model_ok n_Model C.2.2.2.1 hK.1 hE.1 hE.2.1 hE.2.2 0 rfl rfl 25 (by decide) (C.2.2.2.2 _ fl_Model_138) (fun _ h => h) rfl (by decide +kernel) rfl rfl (Nat.le_of_ble_eq_true rfl) hdg (fun H1 locs1 hP hD hS => k H1 locs1 ⟨hP, hD, hS⟩)
theorem al_mpar (C : CallFix p m c cc nL s args Wl own) (hK : KN D vwCl (tyE cI cZ cQ) s) (hE : EW D vwCl A (wM cI cZ am PT PM PC PJ PR PL) H0 H locs) {j x : Int} (hj : 0 ≤ j ∧ j < 24) (hv : g_mpar PT j = x) (hdg : decode cc pc = .ok (.iaload, 1)) (k : W p l e R s m args below meth c H locs cells slots Q (F0 m (pc + 1) ls (.int (zI x) :: rest))) : W p l e R s m args below meth c H locs cells slots Q (F0 m pc ls (.int (zI j) :: .ref (am 1) :: rest)) := by
  subst hv
  exact zx_iald C.1 C.2.1 hK.1 hE.1 1 0 rfl rfl (by decide) hj hdg k
theorem as_mpar (C : CallFix p m c cc nL s args Wl own) (hK : KN D vwCl (tyE cI cZ cQ) s) (hE : EW D vwCl A (wM cI cZ am (mpar, mord, mrnd, mdln, mtag, mshr, mdis, mnod) PM PC PJ PR PL) H0 H locs) {j x : Int} (hj : 0 ≤ j ∧ j < 24) (hdg : decode cc pc = .ok (.iastore, 1)) (k : ∀ (H1 : Heap) (locs1 : List Loc), EW D vwCl A (wM cI cZ am (iup mpar j x, mord, mrnd, mdln, mtag, mshr, mdis, mnod) PM PC PJ PR PL) H0 H1 locs1 → W p l e R s m args below meth c H1 locs1 cells slots Q (F0 m (pc + 1) ls rest)) : W p l e R s m args below meth c H locs cells slots Q (F0 m pc ls (.int (zI x) :: .int (zI j) :: .ref (am 1) :: rest)) :=
  zx_iast C.1 C.2.1 hK.1 hE.1 hE.2.1 hE.2.2 1 0 rfl rfl (by decide) hj hdg (fun H1 locs1 hP hD hS => k H1 locs1 ⟨hP, hD, hS⟩)
theorem al_mord (C : CallFix p m c cc nL s args Wl own) (hK : KN D vwCl (tyE cI cZ cQ) s) (hE : EW D vwCl A (wM cI cZ am PT PM PC PJ PR PL) H0 H locs) {j x : Int} (hj : 0 ≤ j ∧ j < 24) (hv : g_mord PT j = x) (hdg : decode cc pc = .ok (.iaload, 1)) (k : W p l e R s m args below meth c H locs cells slots Q (F0 m (pc + 1) ls (.int (zI x) :: rest))) : W p l e R s m args below meth c H locs cells slots Q (F0 m pc ls (.int (zI j) :: .ref (am 2) :: rest)) := by
  subst hv
  exact zx_iald C.1 C.2.1 hK.1 hE.1 2 0 rfl rfl (by decide) hj hdg k
theorem as_mord (C : CallFix p m c cc nL s args Wl own) (hK : KN D vwCl (tyE cI cZ cQ) s) (hE : EW D vwCl A (wM cI cZ am (mpar, mord, mrnd, mdln, mtag, mshr, mdis, mnod) PM PC PJ PR PL) H0 H locs) {j x : Int} (hj : 0 ≤ j ∧ j < 24) (hdg : decode cc pc = .ok (.iastore, 1)) (k : ∀ (H1 : Heap) (locs1 : List Loc), EW D vwCl A (wM cI cZ am (mpar, iup mord j x, mrnd, mdln, mtag, mshr, mdis, mnod) PM PC PJ PR PL) H0 H1 locs1 → W p l e R s m args below meth c H1 locs1 cells slots Q (F0 m (pc + 1) ls rest)) : W p l e R s m args below meth c H locs cells slots Q (F0 m pc ls (.int (zI x) :: .int (zI j) :: .ref (am 2) :: rest)) :=
  zx_iast C.1 C.2.1 hK.1 hE.1 hE.2.1 hE.2.2 2 0 rfl rfl (by decide) hj hdg (fun H1 locs1 hP hD hS => k H1 locs1 ⟨hP, hD, hS⟩)
theorem al_mrnd (C : CallFix p m c cc nL s args Wl own) (hK : KN D vwCl (tyE cI cZ cQ) s) (hE : EW D vwCl A (wM cI cZ am PT PM PC PJ PR PL) H0 H locs) {j x : Int} (hj : 0 ≤ j ∧ j < 24) (hv : g_mrnd PT j = x) (hdg : decode cc pc = .ok (.iaload, 1)) (k : W p l e R s m args below meth c H locs cells slots Q (F0 m (pc + 1) ls (.int (zI x) :: rest))) : W p l e R s m args below meth c H locs cells slots Q (F0 m pc ls (.int (zI j) :: .ref (am 3) :: rest)) := by
  subst hv
  exact zx_iald C.1 C.2.1 hK.1 hE.1 3 0 rfl rfl (by decide) hj hdg k
theorem as_mrnd (C : CallFix p m c cc nL s args Wl own) (hK : KN D vwCl (tyE cI cZ cQ) s) (hE : EW D vwCl A (wM cI cZ am (mpar, mord, mrnd, mdln, mtag, mshr, mdis, mnod) PM PC PJ PR PL) H0 H locs) {j x : Int} (hj : 0 ≤ j ∧ j < 24) (hdg : decode cc pc = .ok (.iastore, 1)) (k : ∀ (H1 : Heap) (locs1 : List Loc), EW D vwCl A (wM cI cZ am (mpar, mord, iup mrnd j x, mdln, mtag, mshr, mdis, mnod) PM PC PJ PR PL) H0 H1 locs1 → W p l e R s m args below meth c H1 locs1 cells slots Q (F0 m (pc + 1) ls rest)) : W p l e R s m args below meth c H locs cells slots Q (F0 m pc ls (.int (zI x) :: .int (zI j) :: .ref (am 3) :: rest)) :=
  zx_iast C.1 C.2.1 hK.1 hE.1 hE.2.1 hE.2.2 3 0 rfl rfl (by decide) hj hdg (fun H1 locs1 hP hD hS => k H1 locs1 ⟨hP, hD, hS⟩)
theorem al_mdln (C : CallFix p m c cc nL s args Wl own) (hK : KN D vwCl (tyE cI cZ cQ) s) (hE : EW D vwCl A (wM cI cZ am PT PM PC PJ PR PL) H0 H locs) {j x : Int} (hj : 0 ≤ j ∧ j < 24) (hv : g_mdln PT j = x) (hdg : decode cc pc = .ok (.iaload, 1)) (k : W p l e R s m args below meth c H locs cells slots Q (F0 m (pc + 1) ls (.int (zI x) :: rest))) : W p l e R s m args below meth c H locs cells slots Q (F0 m pc ls (.int (zI j) :: .ref (am 4) :: rest)) := by
  subst hv
  exact zx_iald C.1 C.2.1 hK.1 hE.1 4 0 rfl rfl (by decide) hj hdg k
theorem as_mdln (C : CallFix p m c cc nL s args Wl own) (hK : KN D vwCl (tyE cI cZ cQ) s) (hE : EW D vwCl A (wM cI cZ am (mpar, mord, mrnd, mdln, mtag, mshr, mdis, mnod) PM PC PJ PR PL) H0 H locs) {j x : Int} (hj : 0 ≤ j ∧ j < 24) (hdg : decode cc pc = .ok (.iastore, 1)) (k : ∀ (H1 : Heap) (locs1 : List Loc), EW D vwCl A (wM cI cZ am (mpar, mord, mrnd, iup mdln j x, mtag, mshr, mdis, mnod) PM PC PJ PR PL) H0 H1 locs1 → W p l e R s m args below meth c H1 locs1 cells slots Q (F0 m (pc + 1) ls rest)) : W p l e R s m args below meth c H locs cells slots Q (F0 m pc ls (.int (zI x) :: .int (zI j) :: .ref (am 4) :: rest)) :=
  zx_iast C.1 C.2.1 hK.1 hE.1 hE.2.1 hE.2.2 4 0 rfl rfl (by decide) hj hdg (fun H1 locs1 hP hD hS => k H1 locs1 ⟨hP, hD, hS⟩)
theorem al_mtag (C : CallFix p m c cc nL s args Wl own) (hK : KN D vwCl (tyE cI cZ cQ) s) (hE : EW D vwCl A (wM cI cZ am PT PM PC PJ PR PL) H0 H locs) {j x : Int} (hj : 0 ≤ j ∧ j < 24) (hv : g_mtag PT j = x) (hdg : decode cc pc = .ok (.iaload, 1)) (k : W p l e R s m args below meth c H locs cells slots Q (F0 m (pc + 1) ls (.int (zI x) :: rest))) : W p l e R s m args below meth c H locs cells slots Q (F0 m pc ls (.int (zI j) :: .ref (am 5) :: rest)) := by
  subst hv
  exact zx_iald C.1 C.2.1 hK.1 hE.1 5 0 rfl rfl (by decide) hj hdg k
theorem as_mtag (C : CallFix p m c cc nL s args Wl own) (hK : KN D vwCl (tyE cI cZ cQ) s) (hE : EW D vwCl A (wM cI cZ am (mpar, mord, mrnd, mdln, mtag, mshr, mdis, mnod) PM PC PJ PR PL) H0 H locs) {j x : Int} (hj : 0 ≤ j ∧ j < 24) (hdg : decode cc pc = .ok (.iastore, 1)) (k : ∀ (H1 : Heap) (locs1 : List Loc), EW D vwCl A (wM cI cZ am (mpar, mord, mrnd, mdln, iup mtag j x, mshr, mdis, mnod) PM PC PJ PR PL) H0 H1 locs1 → W p l e R s m args below meth c H1 locs1 cells slots Q (F0 m (pc + 1) ls rest)) : W p l e R s m args below meth c H locs cells slots Q (F0 m pc ls (.int (zI x) :: .int (zI j) :: .ref (am 5) :: rest)) :=
  zx_iast C.1 C.2.1 hK.1 hE.1 hE.2.1 hE.2.2 5 0 rfl rfl (by decide) hj hdg (fun H1 locs1 hP hD hS => k H1 locs1 ⟨hP, hD, hS⟩)
theorem al_mshr (C : CallFix p m c cc nL s args Wl own) (hK : KN D vwCl (tyE cI cZ cQ) s) (hE : EW D vwCl A (wM cI cZ am PT PM PC PJ PR PL) H0 H locs) {j x : Int} (hj : 0 ≤ j ∧ j < 24) (hv : g_mshr PT j = x) (hdg : decode cc pc = .ok (.baload, 1)) (k : W p l e R s m args below meth c H locs cells slots Q (F0 m (pc + 1) ls (.int (zI x) :: rest))) : W p l e R s m args below meth c H locs cells slots Q (F0 m pc ls (.int (zI j) :: .ref (am 6) :: rest)) := by
  subst hv
  exact zx_zald C.1 C.2.1 hK.1 hE.1 6 1 rfl rfl (by decide) hj hdg k
theorem as_mshr (C : CallFix p m c cc nL s args Wl own) (hK : KN D vwCl (tyE cI cZ cQ) s) (hE : EW D vwCl A (wM cI cZ am (mpar, mord, mrnd, mdln, mtag, mshr, mdis, mnod) PM PC PJ PR PL) H0 H locs) {j x : Int} (hj : 0 ≤ j ∧ j < 24) (hv : x = 0 ∨ x = 1) (hdg : decode cc pc = .ok (.bastore, 1)) (k : ∀ (H1 : Heap) (locs1 : List Loc), EW D vwCl A (wM cI cZ am (mpar, mord, mrnd, mdln, mtag, iup mshr j x, mdis, mnod) PM PC PJ PR PL) H0 H1 locs1 → W p l e R s m args below meth c H1 locs1 cells slots Q (F0 m (pc + 1) ls rest)) : W p l e R s m args below meth c H locs cells slots Q (F0 m pc ls (.int (zI x) :: .int (zI j) :: .ref (am 6) :: rest)) :=
  zx_zast C.1 C.2.1 hK.1 hE.1 hE.2.1 hE.2.2 6 1 rfl rfl (by decide) hj hv hdg (fun H1 locs1 hP hD hS => k H1 locs1 ⟨hP, hD, hS⟩)
theorem al_mdis (C : CallFix p m c cc nL s args Wl own) (hK : KN D vwCl (tyE cI cZ cQ) s) (hE : EW D vwCl A (wM cI cZ am PT PM PC PJ PR PL) H0 H locs) {j x : Int} (hj : 0 ≤ j ∧ j < 24) (hv : g_mdis PT j = x) (hdg : decode cc pc = .ok (.baload, 1)) (k : W p l e R s m args below meth c H locs cells slots Q (F0 m (pc + 1) ls (.int (zI x) :: rest))) : W p l e R s m args below meth c H locs cells slots Q (F0 m pc ls (.int (zI j) :: .ref (am 7) :: rest)) := by
  subst hv
  exact zx_zald C.1 C.2.1 hK.1 hE.1 7 1 rfl rfl (by decide) hj hdg k
theorem as_mdis (C : CallFix p m c cc nL s args Wl own) (hK : KN D vwCl (tyE cI cZ cQ) s) (hE : EW D vwCl A (wM cI cZ am (mpar, mord, mrnd, mdln, mtag, mshr, mdis, mnod) PM PC PJ PR PL) H0 H locs) {j x : Int} (hj : 0 ≤ j ∧ j < 24) (hv : x = 0 ∨ x = 1) (hdg : decode cc pc = .ok (.bastore, 1)) (k : ∀ (H1 : Heap) (locs1 : List Loc), EW D vwCl A (wM cI cZ am (mpar, mord, mrnd, mdln, mtag, mshr, iup mdis j x, mnod) PM PC PJ PR PL) H0 H1 locs1 → W p l e R s m args below meth c H1 locs1 cells slots Q (F0 m (pc + 1) ls rest)) : W p l e R s m args below meth c H locs cells slots Q (F0 m pc ls (.int (zI x) :: .int (zI j) :: .ref (am 7) :: rest)) :=
  zx_zast C.1 C.2.1 hK.1 hE.1 hE.2.1 hE.2.2 7 1 rfl rfl (by decide) hj hv hdg (fun H1 locs1 hP hD hS => k H1 locs1 ⟨hP, hD, hS⟩)
theorem al_mcho (C : CallFix p m c cc nL s args Wl own) (hK : KN D vwCl (tyE cI cZ cQ) s) (hE : EW D vwCl A (wM cI cZ am PT PM PC PJ PR PL) H0 H locs) {j x : Int} (hj : 0 ≤ j ∧ j < 24) (hv : g_mcho PC j = x) (hdg : decode cc pc = .ok (.baload, 1)) (k : W p l e R s m args below meth c H locs cells slots Q (F0 m (pc + 1) ls (.int (zI x) :: rest))) : W p l e R s m args below meth c H locs cells slots Q (F0 m pc ls (.int (zI j) :: .ref (am 8) :: rest)) := by
  subst hv
  exact zx_zald C.1 C.2.1 hK.1 hE.1 8 1 rfl rfl (by decide) hj hdg k
theorem as_mcho (C : CallFix p m c cc nL s args Wl own) (hK : KN D vwCl (tyE cI cZ cQ) s) (hE : EW D vwCl A (wM cI cZ am PT PM (mcho, mtst) PJ PR PL) H0 H locs) {j x : Int} (hj : 0 ≤ j ∧ j < 24) (hv : x = 0 ∨ x = 1) (hdg : decode cc pc = .ok (.bastore, 1)) (k : ∀ (H1 : Heap) (locs1 : List Loc), EW D vwCl A (wM cI cZ am PT PM (iup mcho j x, mtst) PJ PR PL) H0 H1 locs1 → W p l e R s m args below meth c H1 locs1 cells slots Q (F0 m (pc + 1) ls rest)) : W p l e R s m args below meth c H locs cells slots Q (F0 m pc ls (.int (zI x) :: .int (zI j) :: .ref (am 8) :: rest)) :=
  zx_zast C.1 C.2.1 hK.1 hE.1 hE.2.1 hE.2.2 8 1 rfl rfl (by decide) hj hv hdg (fun H1 locs1 hP hD hS => k H1 locs1 ⟨hP, hD, hS⟩)
theorem al_mthr (C : CallFix p m c cc nL s args Wl own) (hK : KN D vwCl (tyE cI cZ cQ) s) (hE : EW D vwCl A (wM cI cZ am PT PM PC PJ PR PL) H0 H locs) {j x : Int} (hj : 0 ≤ j ∧ j < 168) (hv : g_mthr PM j = x) (hdg : decode cc pc = .ok (.baload, 1)) (k : W p l e R s m args below meth c H locs cells slots Q (F0 m (pc + 1) ls (.int (zI x) :: rest))) : W p l e R s m args below meth c H locs cells slots Q (F0 m pc ls (.int (zI j) :: .ref (am 9) :: rest)) := by
  subst hv
  exact zx_zald C.1 C.2.1 hK.1 hE.1 9 1 rfl rfl (by decide) hj hdg k
theorem as_mthr (C : CallFix p m c cc nL s args Wl own) (hK : KN D vwCl (tyE cI cZ cQ) s) (hE : EW D vwCl A (wM cI cZ am PT (mthr, mres, mcod, mlas) PC PJ PR PL) H0 H locs) {j x : Int} (hj : 0 ≤ j ∧ j < 168) (hv : x = 0 ∨ x = 1) (hdg : decode cc pc = .ok (.bastore, 1)) (k : ∀ (H1 : Heap) (locs1 : List Loc), EW D vwCl A (wM cI cZ am PT (iup mthr j x, mres, mcod, mlas) PC PJ PR PL) H0 H1 locs1 → W p l e R s m args below meth c H1 locs1 cells slots Q (F0 m (pc + 1) ls rest)) : W p l e R s m args below meth c H locs cells slots Q (F0 m pc ls (.int (zI x) :: .int (zI j) :: .ref (am 9) :: rest)) :=
  zx_zast C.1 C.2.1 hK.1 hE.1 hE.2.1 hE.2.2 9 1 rfl rfl (by decide) hj hv hdg (fun H1 locs1 hP hD hS => k H1 locs1 ⟨hP, hD, hS⟩)
theorem al_mres (C : CallFix p m c cc nL s args Wl own) (hK : KN D vwCl (tyE cI cZ cQ) s) (hE : EW D vwCl A (wM cI cZ am PT PM PC PJ PR PL) H0 H locs) {j x : Int} (hj : 0 ≤ j ∧ j < 168) (hv : g_mres PM j = x) (hdg : decode cc pc = .ok (.iaload, 1)) (k : W p l e R s m args below meth c H locs cells slots Q (F0 m (pc + 1) ls (.int (zI x) :: rest))) : W p l e R s m args below meth c H locs cells slots Q (F0 m pc ls (.int (zI j) :: .ref (am 10) :: rest)) := by
  subst hv
  exact zx_iald C.1 C.2.1 hK.1 hE.1 10 0 rfl rfl (by decide) hj hdg k
theorem as_mres (C : CallFix p m c cc nL s args Wl own) (hK : KN D vwCl (tyE cI cZ cQ) s) (hE : EW D vwCl A (wM cI cZ am PT (mthr, mres, mcod, mlas) PC PJ PR PL) H0 H locs) {j x : Int} (hj : 0 ≤ j ∧ j < 168) (hdg : decode cc pc = .ok (.iastore, 1)) (k : ∀ (H1 : Heap) (locs1 : List Loc), EW D vwCl A (wM cI cZ am PT (mthr, iup mres j x, mcod, mlas) PC PJ PR PL) H0 H1 locs1 → W p l e R s m args below meth c H1 locs1 cells slots Q (F0 m (pc + 1) ls rest)) : W p l e R s m args below meth c H locs cells slots Q (F0 m pc ls (.int (zI x) :: .int (zI j) :: .ref (am 10) :: rest)) :=
  zx_iast C.1 C.2.1 hK.1 hE.1 hE.2.1 hE.2.2 10 0 rfl rfl (by decide) hj hdg (fun H1 locs1 hP hD hS => k H1 locs1 ⟨hP, hD, hS⟩)
theorem al_mcod (C : CallFix p m c cc nL s args Wl own) (hK : KN D vwCl (tyE cI cZ cQ) s) (hE : EW D vwCl A (wM cI cZ am PT PM PC PJ PR PL) H0 H locs) {j x : Int} (hj : 0 ≤ j ∧ j < 168) (hv : g_mcod PM j = x) (hdg : decode cc pc = .ok (.iaload, 1)) (k : W p l e R s m args below meth c H locs cells slots Q (F0 m (pc + 1) ls (.int (zI x) :: rest))) : W p l e R s m args below meth c H locs cells slots Q (F0 m pc ls (.int (zI j) :: .ref (am 11) :: rest)) := by
  subst hv
  exact zx_iald C.1 C.2.1 hK.1 hE.1 11 0 rfl rfl (by decide) hj hdg k
theorem as_mcod (C : CallFix p m c cc nL s args Wl own) (hK : KN D vwCl (tyE cI cZ cQ) s) (hE : EW D vwCl A (wM cI cZ am PT (mthr, mres, mcod, mlas) PC PJ PR PL) H0 H locs) {j x : Int} (hj : 0 ≤ j ∧ j < 168) (hdg : decode cc pc = .ok (.iastore, 1)) (k : ∀ (H1 : Heap) (locs1 : List Loc), EW D vwCl A (wM cI cZ am PT (mthr, mres, iup mcod j x, mlas) PC PJ PR PL) H0 H1 locs1 → W p l e R s m args below meth c H1 locs1 cells slots Q (F0 m (pc + 1) ls rest)) : W p l e R s m args below meth c H locs cells slots Q (F0 m pc ls (.int (zI x) :: .int (zI j) :: .ref (am 11) :: rest)) :=
  zx_iast C.1 C.2.1 hK.1 hE.1 hE.2.1 hE.2.2 11 0 rfl rfl (by decide) hj hdg (fun H1 locs1 hP hD hS => k H1 locs1 ⟨hP, hD, hS⟩)
theorem al_mlas (C : CallFix p m c cc nL s args Wl own) (hK : KN D vwCl (tyE cI cZ cQ) s) (hE : EW D vwCl A (wM cI cZ am PT PM PC PJ PR PL) H0 H locs) {j x : Int} (hj : 0 ≤ j ∧ j < 168) (hv : g_mlas PM j = x) (hdg : decode cc pc = .ok (.iaload, 1)) (k : W p l e R s m args below meth c H locs cells slots Q (F0 m (pc + 1) ls (.int (zI x) :: rest))) : W p l e R s m args below meth c H locs cells slots Q (F0 m pc ls (.int (zI j) :: .ref (am 12) :: rest)) := by
  subst hv
  exact zx_iald C.1 C.2.1 hK.1 hE.1 12 0 rfl rfl (by decide) hj hdg k
theorem as_mlas (C : CallFix p m c cc nL s args Wl own) (hK : KN D vwCl (tyE cI cZ cQ) s) (hE : EW D vwCl A (wM cI cZ am PT (mthr, mres, mcod, mlas) PC PJ PR PL) H0 H locs) {j x : Int} (hj : 0 ≤ j ∧ j < 168) (hdg : decode cc pc = .ok (.iastore, 1)) (k : ∀ (H1 : Heap) (locs1 : List Loc), EW D vwCl A (wM cI cZ am PT (mthr, mres, mcod, iup mlas j x) PC PJ PR PL) H0 H1 locs1 → W p l e R s m args below meth c H1 locs1 cells slots Q (F0 m (pc + 1) ls rest)) : W p l e R s m args below meth c H locs cells slots Q (F0 m pc ls (.int (zI x) :: .int (zI j) :: .ref (am 12) :: rest)) :=
  zx_iast C.1 C.2.1 hK.1 hE.1 hE.2.1 hE.2.2 12 0 rfl rfl (by decide) hj hdg (fun H1 locs1 hP hD hS => k H1 locs1 ⟨hP, hD, hS⟩)
theorem al_mlvl (C : CallFix p m c cc nL s args Wl own) (hK : KN D vwCl (tyE cI cZ cQ) s) (hE : EW D vwCl A (wM cI cZ am PT PM PC PJ PR PL) H0 H locs) {j x : Int} (hj : 0 ≤ j ∧ j < 5) (hv : g_mlvl PR j = x) (hdg : decode cc pc = .ok (.iaload, 1)) (k : W p l e R s m args below meth c H locs cells slots Q (F0 m (pc + 1) ls (.int (zI x) :: rest))) : W p l e R s m args below meth c H locs cells slots Q (F0 m pc ls (.int (zI j) :: .ref (am 13) :: rest)) := by
  subst hv
  exact zx_iald C.1 C.2.1 hK.1 hE.1 13 0 rfl rfl (by decide) hj hdg k
theorem as_mlvl (C : CallFix p m c cc nL s args Wl own) (hK : KN D vwCl (tyE cI cZ cQ) s) (hE : EW D vwCl A (wM cI cZ am PT PM PC PJ (mlvl, mlch, mins, mlvs, mtim, mcal, mmad, mstp) PL) H0 H locs) {j x : Int} (hj : 0 ≤ j ∧ j < 5) (hdg : decode cc pc = .ok (.iastore, 1)) (k : ∀ (H1 : Heap) (locs1 : List Loc), EW D vwCl A (wM cI cZ am PT PM PC PJ (iup mlvl j x, mlch, mins, mlvs, mtim, mcal, mmad, mstp) PL) H0 H1 locs1 → W p l e R s m args below meth c H1 locs1 cells slots Q (F0 m (pc + 1) ls rest)) : W p l e R s m args below meth c H locs cells slots Q (F0 m pc ls (.int (zI x) :: .int (zI j) :: .ref (am 13) :: rest)) :=
  zx_iast C.1 C.2.1 hK.1 hE.1 hE.2.1 hE.2.2 13 0 rfl rfl (by decide) hj hdg (fun H1 locs1 hP hD hS => k H1 locs1 ⟨hP, hD, hS⟩)
theorem al_mlch (C : CallFix p m c cc nL s args Wl own) (hK : KN D vwCl (tyE cI cZ cQ) s) (hE : EW D vwCl A (wM cI cZ am PT PM PC PJ PR PL) H0 H locs) {j x : Int} (hj : 0 ≤ j ∧ j < 5) (hv : g_mlch PR j = x) (hdg : decode cc pc = .ok (.iaload, 1)) (k : W p l e R s m args below meth c H locs cells slots Q (F0 m (pc + 1) ls (.int (zI x) :: rest))) : W p l e R s m args below meth c H locs cells slots Q (F0 m pc ls (.int (zI j) :: .ref (am 14) :: rest)) := by
  subst hv
  exact zx_iald C.1 C.2.1 hK.1 hE.1 14 0 rfl rfl (by decide) hj hdg k
theorem as_mlch (C : CallFix p m c cc nL s args Wl own) (hK : KN D vwCl (tyE cI cZ cQ) s) (hE : EW D vwCl A (wM cI cZ am PT PM PC PJ (mlvl, mlch, mins, mlvs, mtim, mcal, mmad, mstp) PL) H0 H locs) {j x : Int} (hj : 0 ≤ j ∧ j < 5) (hdg : decode cc pc = .ok (.iastore, 1)) (k : ∀ (H1 : Heap) (locs1 : List Loc), EW D vwCl A (wM cI cZ am PT PM PC PJ (mlvl, iup mlch j x, mins, mlvs, mtim, mcal, mmad, mstp) PL) H0 H1 locs1 → W p l e R s m args below meth c H1 locs1 cells slots Q (F0 m (pc + 1) ls rest)) : W p l e R s m args below meth c H locs cells slots Q (F0 m pc ls (.int (zI x) :: .int (zI j) :: .ref (am 14) :: rest)) :=
  zx_iast C.1 C.2.1 hK.1 hE.1 hE.2.1 hE.2.2 14 0 rfl rfl (by decide) hj hdg (fun H1 locs1 hP hD hS => k H1 locs1 ⟨hP, hD, hS⟩)
theorem al_mins (C : CallFix p m c cc nL s args Wl own) (hK : KN D vwCl (tyE cI cZ cQ) s) (hE : EW D vwCl A (wM cI cZ am PT PM PC PJ PR PL) H0 H locs) {j x : Int} (hj : 0 ≤ j ∧ j < 24) (hv : g_mins PR j = x) (hdg : decode cc pc = .ok (.iaload, 1)) (k : W p l e R s m args below meth c H locs cells slots Q (F0 m (pc + 1) ls (.int (zI x) :: rest))) : W p l e R s m args below meth c H locs cells slots Q (F0 m pc ls (.int (zI j) :: .ref (am 15) :: rest)) := by
  subst hv
  exact zx_iald C.1 C.2.1 hK.1 hE.1 15 0 rfl rfl (by decide) hj hdg k
theorem as_mins (C : CallFix p m c cc nL s args Wl own) (hK : KN D vwCl (tyE cI cZ cQ) s) (hE : EW D vwCl A (wM cI cZ am PT PM PC PJ (mlvl, mlch, mins, mlvs, mtim, mcal, mmad, mstp) PL) H0 H locs) {j x : Int} (hj : 0 ≤ j ∧ j < 24) (hdg : decode cc pc = .ok (.iastore, 1)) (k : ∀ (H1 : Heap) (locs1 : List Loc), EW D vwCl A (wM cI cZ am PT PM PC PJ (mlvl, mlch, iup mins j x, mlvs, mtim, mcal, mmad, mstp) PL) H0 H1 locs1 → W p l e R s m args below meth c H1 locs1 cells slots Q (F0 m (pc + 1) ls rest)) : W p l e R s m args below meth c H locs cells slots Q (F0 m pc ls (.int (zI x) :: .int (zI j) :: .ref (am 15) :: rest)) :=
  zx_iast C.1 C.2.1 hK.1 hE.1 hE.2.1 hE.2.2 15 0 rfl rfl (by decide) hj hdg (fun H1 locs1 hP hD hS => k H1 locs1 ⟨hP, hD, hS⟩)
theorem al_mco2 (C : CallFix p m c cc nL s args Wl own) (hK : KN D vwCl (tyE cI cZ cQ) s) (hE : EW D vwCl A (wM cI cZ am PT PM PC PJ PR PL) H0 H locs) {j x : Int} (hj : 0 ≤ j ∧ j < 20) (hv : g_mco2 PL j = x) (hdg : decode cc pc = .ok (.iaload, 1)) (k : W p l e R s m args below meth c H locs cells slots Q (F0 m (pc + 1) ls (.int (zI x) :: rest))) : W p l e R s m args below meth c H locs cells slots Q (F0 m pc ls (.int (zI j) :: .ref (am 16) :: rest)) := by
  subst hv
  exact zx_iald C.1 C.2.1 hK.1 hE.1 16 0 rfl rfl (by decide) hj hdg k
theorem as_mco2 (C : CallFix p m c cc nL s args Wl own) (hK : KN D vwCl (tyE cI cZ cQ) s) (hE : EW D vwCl A (wM cI cZ am PT PM PC PJ PR (mco2, mgav, mtro)) H0 H locs) {j x : Int} (hj : 0 ≤ j ∧ j < 20) (hdg : decode cc pc = .ok (.iastore, 1)) (k : ∀ (H1 : Heap) (locs1 : List Loc), EW D vwCl A (wM cI cZ am PT PM PC PJ PR (iup mco2 j x, mgav, mtro)) H0 H1 locs1 → W p l e R s m args below meth c H1 locs1 cells slots Q (F0 m (pc + 1) ls rest)) : W p l e R s m args below meth c H locs cells slots Q (F0 m pc ls (.int (zI x) :: .int (zI j) :: .ref (am 16) :: rest)) :=
  zx_iast C.1 C.2.1 hK.1 hE.1 hE.2.1 hE.2.2 16 0 rfl rfl (by decide) hj hdg (fun H1 locs1 hP hD hS => k H1 locs1 ⟨hP, hD, hS⟩)
theorem al_mgav (C : CallFix p m c cc nL s args Wl own) (hK : KN D vwCl (tyE cI cZ cQ) s) (hE : EW D vwCl A (wM cI cZ am PT PM PC PJ PR PL) H0 H locs) {j x : Int} (hj : 0 ≤ j ∧ j < 20) (hv : g_mgav PL j = x) (hdg : decode cc pc = .ok (.iaload, 1)) (k : W p l e R s m args below meth c H locs cells slots Q (F0 m (pc + 1) ls (.int (zI x) :: rest))) : W p l e R s m args below meth c H locs cells slots Q (F0 m pc ls (.int (zI j) :: .ref (am 17) :: rest)) := by
  subst hv
  exact zx_iald C.1 C.2.1 hK.1 hE.1 17 0 rfl rfl (by decide) hj hdg k
theorem as_mgav (C : CallFix p m c cc nL s args Wl own) (hK : KN D vwCl (tyE cI cZ cQ) s) (hE : EW D vwCl A (wM cI cZ am PT PM PC PJ PR (mco2, mgav, mtro)) H0 H locs) {j x : Int} (hj : 0 ≤ j ∧ j < 20) (hdg : decode cc pc = .ok (.iastore, 1)) (k : ∀ (H1 : Heap) (locs1 : List Loc), EW D vwCl A (wM cI cZ am PT PM PC PJ PR (mco2, iup mgav j x, mtro)) H0 H1 locs1 → W p l e R s m args below meth c H1 locs1 cells slots Q (F0 m (pc + 1) ls rest)) : W p l e R s m args below meth c H locs cells slots Q (F0 m pc ls (.int (zI x) :: .int (zI j) :: .ref (am 17) :: rest)) :=
  zx_iast C.1 C.2.1 hK.1 hE.1 hE.2.1 hE.2.2 17 0 rfl rfl (by decide) hj hdg (fun H1 locs1 hP hD hS => k H1 locs1 ⟨hP, hD, hS⟩)
theorem al_mtro (C : CallFix p m c cc nL s args Wl own) (hK : KN D vwCl (tyE cI cZ cQ) s) (hE : EW D vwCl A (wM cI cZ am PT PM PC PJ PR PL) H0 H locs) {j x : Int} (hj : 0 ≤ j ∧ j < 5) (hv : g_mtro PL j = x) (hdg : decode cc pc = .ok (.iaload, 1)) (k : W p l e R s m args below meth c H locs cells slots Q (F0 m (pc + 1) ls (.int (zI x) :: rest))) : W p l e R s m args below meth c H locs cells slots Q (F0 m pc ls (.int (zI j) :: .ref (am 18) :: rest)) := by
  subst hv
  exact zx_iald C.1 C.2.1 hK.1 hE.1 18 0 rfl rfl (by decide) hj hdg k
theorem as_mtro (C : CallFix p m c cc nL s args Wl own) (hK : KN D vwCl (tyE cI cZ cQ) s) (hE : EW D vwCl A (wM cI cZ am PT PM PC PJ PR (mco2, mgav, mtro)) H0 H locs) {j x : Int} (hj : 0 ≤ j ∧ j < 5) (hdg : decode cc pc = .ok (.iastore, 1)) (k : ∀ (H1 : Heap) (locs1 : List Loc), EW D vwCl A (wM cI cZ am PT PM PC PJ PR (mco2, mgav, iup mtro j x)) H0 H1 locs1 → W p l e R s m args below meth c H1 locs1 cells slots Q (F0 m (pc + 1) ls rest)) : W p l e R s m args below meth c H locs cells slots Q (F0 m pc ls (.int (zI x) :: .int (zI j) :: .ref (am 18) :: rest)) :=
  zx_iast C.1 C.2.1 hK.1 hE.1 hE.2.1 hE.2.2 18 0 rfl rfl (by decide) hj hdg (fun H1 locs1 hP hD hS => k H1 locs1 ⟨hP, hD, hS⟩)
theorem al_mevt (C : CallFix p m c cc nL s args Wl own) (hK : KN D vwCl (tyE cI cZ cQ) s) (hE : EW D vwCl A (wM cI cZ am PT PM PC PJ PR PL) H0 H locs) {j x : Int} (hj : 0 ≤ j ∧ j < 1200) (hv : g_mevt PJ j = x) (hdg : decode cc pc = .ok (.iaload, 1)) (k : W p l e R s m args below meth c H locs cells slots Q (F0 m (pc + 1) ls (.int (zI x) :: rest))) : W p l e R s m args below meth c H locs cells slots Q (F0 m pc ls (.int (zI j) :: .ref (am 19) :: rest)) := by
  subst hv
  exact zx_iald C.1 C.2.1 hK.1 hE.1 19 0 rfl rfl (by decide) hj hdg k
theorem as_mevt (C : CallFix p m c cc nL s args Wl own) (hK : KN D vwCl (tyE cI cZ cQ) s) (hE : EW D vwCl A (wM cI cZ am PT PM PC (mevt, mevc, mev, msuc, mfai, mabo, mski, mbad, many) PR PL) H0 H locs) {j x : Int} (hj : 0 ≤ j ∧ j < 1200) (hdg : decode cc pc = .ok (.iastore, 1)) (k : ∀ (H1 : Heap) (locs1 : List Loc), EW D vwCl A (wM cI cZ am PT PM PC (iup mevt j x, mevc, mev, msuc, mfai, mabo, mski, mbad, many) PR PL) H0 H1 locs1 → W p l e R s m args below meth c H1 locs1 cells slots Q (F0 m (pc + 1) ls rest)) : W p l e R s m args below meth c H locs cells slots Q (F0 m pc ls (.int (zI x) :: .int (zI j) :: .ref (am 19) :: rest)) :=
  zx_iast C.1 C.2.1 hK.1 hE.1 hE.2.1 hE.2.2 19 0 rfl rfl (by decide) hj hdg (fun H1 locs1 hP hD hS => k H1 locs1 ⟨hP, hD, hS⟩)
theorem al_mevc (C : CallFix p m c cc nL s args Wl own) (hK : KN D vwCl (tyE cI cZ cQ) s) (hE : EW D vwCl A (wM cI cZ am PT PM PC PJ PR PL) H0 H locs) {j x : Int} (hj : 0 ≤ j ∧ j < 600) (hv : g_mevc PJ j = x) (hdg : decode cc pc = .ok (.iaload, 1)) (k : W p l e R s m args below meth c H locs cells slots Q (F0 m (pc + 1) ls (.int (zI x) :: rest))) : W p l e R s m args below meth c H locs cells slots Q (F0 m pc ls (.int (zI j) :: .ref (am 20) :: rest)) := by
  subst hv
  exact zx_iald C.1 C.2.1 hK.1 hE.1 20 0 rfl rfl (by decide) hj hdg k
theorem as_mevc (C : CallFix p m c cc nL s args Wl own) (hK : KN D vwCl (tyE cI cZ cQ) s) (hE : EW D vwCl A (wM cI cZ am PT PM PC (mevt, mevc, mev, msuc, mfai, mabo, mski, mbad, many) PR PL) H0 H locs) {j x : Int} (hj : 0 ≤ j ∧ j < 600) (hdg : decode cc pc = .ok (.iastore, 1)) (k : ∀ (H1 : Heap) (locs1 : List Loc), EW D vwCl A (wM cI cZ am PT PM PC (mevt, iup mevc j x, mev, msuc, mfai, mabo, mski, mbad, many) PR PL) H0 H1 locs1 → W p l e R s m args below meth c H1 locs1 cells slots Q (F0 m (pc + 1) ls rest)) : W p l e R s m args below meth c H locs cells slots Q (F0 m pc ls (.int (zI x) :: .int (zI j) :: .ref (am 20) :: rest)) :=
  zx_iast C.1 C.2.1 hK.1 hE.1 hE.2.1 hE.2.2 20 0 rfl rfl (by decide) hj hdg (fun H1 locs1 hP hD hS => k H1 locs1 ⟨hP, hD, hS⟩)
end
end
section
theorem hd_Engine_init : y_Engine_init.cls ≠ "java/lang/invoke/MethodHandle" ∧ y_Engine_init.cls ≠ "java/lang/invoke/VarHandle" ∧ (parseMethodDescriptor y_Engine_init.desc).map (fun d => d.parameters.length) = some 0 := by decide +kernel
theorem hd_Tree_init : y_Tree_init.cls ≠ "java/lang/invoke/MethodHandle" ∧ y_Tree_init.cls ≠ "java/lang/invoke/VarHandle" ∧ (parseMethodDescriptor y_Tree_init.desc).map (fun d => d.parameters.length) = some 0 := by decide +kernel
theorem hd_Methods_init : y_Methods_init.cls ≠ "java/lang/invoke/MethodHandle" ∧ y_Methods_init.cls ≠ "java/lang/invoke/VarHandle" ∧ (parseMethodDescriptor y_Methods_init.desc).map (fun d => d.parameters.length) = some 0 := by decide +kernel
theorem hd_Choice_init : y_Choice_init.cls ≠ "java/lang/invoke/MethodHandle" ∧ y_Choice_init.cls ≠ "java/lang/invoke/VarHandle" ∧ (parseMethodDescriptor y_Choice_init.desc).map (fun d => d.parameters.length) = some 1 := by decide +kernel
theorem hd_Journal_init : y_Journal_init.cls ≠ "java/lang/invoke/MethodHandle" ∧ y_Journal_init.cls ≠ "java/lang/invoke/VarHandle" ∧ (parseMethodDescriptor y_Journal_init.desc).map (fun d => d.parameters.length) = some 0 := by decide +kernel
theorem hd_Runner_init : y_Runner_init.cls ≠ "java/lang/invoke/MethodHandle" ∧ y_Runner_init.cls ≠ "java/lang/invoke/VarHandle" ∧ (parseMethodDescriptor y_Runner_init.desc).map (fun d => d.parameters.length) = some 4 := by decide +kernel
theorem hd_Troubles_init : y_Troubles_init.cls ≠ "java/lang/invoke/MethodHandle" ∧ y_Troubles_init.cls ≠ "java/lang/invoke/VarHandle" ∧ (parseMethodDescriptor y_Troubles_init.desc).map (fun d => d.parameters.length) = some 0 := by decide +kernel
theorem hd_Engine_container : y_Engine_container.cls = R_Engine ∧ y_Engine_container.cls ≠ "java/lang/invoke/MethodHandle" ∧ y_Engine_container.cls ≠ "java/lang/invoke/VarHandle" ∧ (parseMethodDescriptor y_Engine_container.desc).map (fun d => d.parameters.length) = some 3 := by decide +kernel
theorem hd_Tree_isContainer : y_Tree_isContainer.cls = R_Tree ∧ y_Tree_isContainer.cls ≠ "java/lang/invoke/MethodHandle" ∧ y_Tree_isContainer.cls ≠ "java/lang/invoke/VarHandle" ∧ (parseMethodDescriptor y_Tree_isContainer.desc).map (fun d => d.parameters.length) = some 1 := by decide +kernel
theorem hd_Tree_isNode : y_Tree_isNode.cls = R_Tree ∧ y_Tree_isNode.cls ≠ "java/lang/invoke/MethodHandle" ∧ y_Tree_isNode.cls ≠ "java/lang/invoke/VarHandle" ∧ (parseMethodDescriptor y_Tree_isNode.desc).map (fun d => d.parameters.length) = some 1 := by decide +kernel
theorem hd_Engine_isWithin : y_Engine_isWithin.cls ≠ "java/lang/invoke/MethodHandle" ∧ y_Engine_isWithin.cls ≠ "java/lang/invoke/VarHandle" ∧ (parseMethodDescriptor y_Engine_isWithin.desc).map (fun d => d.parameters.length) = some 3 := by decide +kernel
theorem hd_Tree_depthOf : y_Tree_depthOf.cls = R_Tree ∧ y_Tree_depthOf.cls ≠ "java/lang/invoke/MethodHandle" ∧ y_Tree_depthOf.cls ≠ "java/lang/invoke/VarHandle" ∧ (parseMethodDescriptor y_Tree_depthOf.desc).map (fun d => d.parameters.length) = some 1 := by decide +kernel
theorem hd_Tree_isFull : y_Tree_isFull.cls = R_Tree ∧ y_Tree_isFull.cls ≠ "java/lang/invoke/MethodHandle" ∧ y_Tree_isFull.cls ≠ "java/lang/invoke/VarHandle" ∧ (parseMethodDescriptor y_Tree_isFull.desc).map (fun d => d.parameters.length) = some 0 := by decide +kernel
theorem hd_Tree_addContainer : y_Tree_addContainer.cls = R_Tree ∧ y_Tree_addContainer.cls ≠ "java/lang/invoke/MethodHandle" ∧ y_Tree_addContainer.cls ≠ "java/lang/invoke/VarHandle" ∧ (parseMethodDescriptor y_Tree_addContainer.desc).map (fun d => d.parameters.length) = some 3 := by decide +kernel
theorem hd_Tree_addNode : y_Tree_addNode.cls = R_Tree ∧ y_Tree_addNode.cls ≠ "java/lang/invoke/MethodHandle" ∧ y_Tree_addNode.cls ≠ "java/lang/invoke/VarHandle" ∧ (parseMethodDescriptor y_Tree_addNode.desc).map (fun d => d.parameters.length) = some 2 := by decide +kernel
theorem hd_Engine_test : y_Engine_test.cls = R_Engine ∧ y_Engine_test.cls ≠ "java/lang/invoke/MethodHandle" ∧ y_Engine_test.cls ≠ "java/lang/invoke/VarHandle" ∧ (parseMethodDescriptor y_Engine_test.desc).map (fun d => d.parameters.length) = some 4 := by decide +kernel
theorem hd_Tree_addTest : y_Tree_addTest.cls = R_Tree ∧ y_Tree_addTest.cls ≠ "java/lang/invoke/MethodHandle" ∧ y_Tree_addTest.cls ≠ "java/lang/invoke/VarHandle" ∧ (parseMethodDescriptor y_Tree_addTest.desc).map (fun d => d.parameters.length) = some 4 := by decide +kernel
theorem hd_Methods_giveBodies : y_Methods_giveBodies.cls = R_Methods ∧ y_Methods_giveBodies.cls ≠ "java/lang/invoke/MethodHandle" ∧ y_Methods_giveBodies.cls ≠ "java/lang/invoke/VarHandle" ∧ (parseMethodDescriptor y_Methods_giveBodies.desc).map (fun d => d.parameters.length) = some 2 := by decide +kernel
theorem hd_Methods_give : y_Methods_give.cls = R_Methods ∧ y_Methods_give.cls ≠ "java/lang/invoke/MethodHandle" ∧ y_Methods_give.cls ≠ "java/lang/invoke/VarHandle" ∧ (parseMethodDescriptor y_Methods_give.desc).map (fun d => d.parameters.length) = some 5 := by decide +kernel
theorem hd_Methods_placeOf : y_Methods_placeOf.cls ≠ "java/lang/invoke/MethodHandle" ∧ y_Methods_placeOf.cls ≠ "java/lang/invoke/VarHandle" ∧ (parseMethodDescriptor y_Methods_placeOf.desc).map (fun d => d.parameters.length) = some 2 := by decide +kernel
theorem hd_Engine_mark : y_Engine_mark.cls = R_Engine ∧ y_Engine_mark.cls ≠ "java/lang/invoke/MethodHandle" ∧ y_Engine_mark.cls ≠ "java/lang/invoke/VarHandle" ∧ (parseMethodDescriptor y_Engine_mark.desc).map (fun d => d.parameters.length) = some 3 := by decide +kernel
theorem hd_Tree_setMarks : y_Tree_setMarks.cls = R_Tree ∧ y_Tree_setMarks.cls ≠ "java/lang/invoke/MethodHandle" ∧ y_Tree_setMarks.cls ≠ "java/lang/invoke/VarHandle" ∧ (parseMethodDescriptor y_Tree_setMarks.desc).map (fun d => d.parameters.length) = some 3 := by decide +kernel
theorem hd_Engine_method : y_Engine_method.cls = R_Engine ∧ y_Engine_method.cls ≠ "java/lang/invoke/MethodHandle" ∧ y_Engine_method.cls ≠ "java/lang/invoke/VarHandle" ∧ (parseMethodDescriptor y_Engine_method.desc).map (fun d => d.parameters.length) = some 5 := by decide +kernel
theorem hd_Tree_mayHave : y_Tree_mayHave.cls = R_Tree ∧ y_Tree_mayHave.cls ≠ "java/lang/invoke/MethodHandle" ∧ y_Tree_mayHave.cls ≠ "java/lang/invoke/VarHandle" ∧ (parseMethodDescriptor y_Tree_mayHave.desc).map (fun d => d.parameters.length) = some 2 := by decide +kernel
theorem hd_Engine_without : y_Engine_without.cls = R_Engine ∧ y_Engine_without.cls ≠ "java/lang/invoke/MethodHandle" ∧ y_Engine_without.cls ≠ "java/lang/invoke/VarHandle" ∧ (parseMethodDescriptor y_Engine_without.desc).map (fun d => d.parameters.length) = some 2 := by decide +kernel
theorem hd_Methods_isThere : y_Methods_isThere.cls = R_Methods ∧ y_Methods_isThere.cls ≠ "java/lang/invoke/MethodHandle" ∧ y_Methods_isThere.cls ≠ "java/lang/invoke/VarHandle" ∧ (parseMethodDescriptor y_Methods_isThere.desc).map (fun d => d.parameters.length) = some 1 := by decide +kernel
theorem hd_Methods_takeAt : y_Methods_takeAt.cls = R_Methods ∧ y_Methods_takeAt.cls ≠ "java/lang/invoke/MethodHandle" ∧ y_Methods_takeAt.cls ≠ "java/lang/invoke/VarHandle" ∧ (parseMethodDescriptor y_Methods_takeAt.desc).map (fun d => d.parameters.length) = some 1 := by decide +kernel
theorem hd_Engine_run : y_Engine_run.cls = R_Engine ∧ y_Engine_run.cls ≠ "java/lang/invoke/MethodHandle" ∧ y_Engine_run.cls ≠ "java/lang/invoke/VarHandle" ∧ (parseMethodDescriptor y_Engine_run.desc).map (fun d => d.parameters.length) = some 3 := by decide +kernel
theorem hd_Choice_choose : y_Choice_choose.cls = R_Choice ∧ y_Choice_choose.cls ≠ "java/lang/invoke/MethodHandle" ∧ y_Choice_choose.cls ≠ "java/lang/invoke/VarHandle" ∧ (parseMethodDescriptor y_Choice_choose.desc).map (fun d => d.parameters.length) = some 2 := by decide +kernel
theorem hd_Choice_gatherTags : y_Choice_gatherTags.cls = R_Choice ∧ y_Choice_gatherTags.cls ≠ "java/lang/invoke/MethodHandle" ∧ y_Choice_gatherTags.cls ≠ "java/lang/invoke/VarHandle" ∧ (parseMethodDescriptor y_Choice_gatherTags.desc).map (fun d => d.parameters.length) = some 0 := by decide +kernel
theorem hd_Tree_tagsOf : y_Tree_tagsOf.cls = R_Tree ∧ y_Tree_tagsOf.cls ≠ "java/lang/invoke/MethodHandle" ∧ y_Tree_tagsOf.cls ≠ "java/lang/invoke/VarHandle" ∧ (parseMethodDescriptor y_Tree_tagsOf.desc).map (fun d => d.parameters.length) = some 1 := by decide +kernel
theorem hd_Tree_size : y_Tree_size.cls = R_Tree ∧ y_Tree_size.cls ≠ "java/lang/invoke/MethodHandle" ∧ y_Tree_size.cls ≠ "java/lang/invoke/VarHandle" ∧ (parseMethodDescriptor y_Tree_size.desc).map (fun d => d.parameters.length) = some 0 := by decide +kernel
theorem hd_Tree_parentOf : y_Tree_parentOf.cls = R_Tree ∧ y_Tree_parentOf.cls ≠ "java/lang/invoke/MethodHandle" ∧ y_Tree_parentOf.cls ≠ "java/lang/invoke/VarHandle" ∧ (parseMethodDescriptor y_Tree_parentOf.desc).map (fun d => d.parameters.length) = some 1 := by decide +kernel
theorem hd_Choice_suits : y_Choice_suits.cls ≠ "java/lang/invoke/MethodHandle" ∧ y_Choice_suits.cls ≠ "java/lang/invoke/VarHandle" ∧ (parseMethodDescriptor y_Choice_suits.desc).map (fun d => d.parameters.length) = some 3 := by decide +kernel
theorem hd_Choice_chooseContainers : y_Choice_chooseContainers.cls = R_Choice ∧ y_Choice_chooseContainers.cls ≠ "java/lang/invoke/MethodHandle" ∧ y_Choice_chooseContainers.cls ≠ "java/lang/invoke/VarHandle" ∧ (parseMethodDescriptor y_Choice_chooseContainers.desc).map (fun d => d.parameters.length) = some 0 := by decide +kernel
theorem hd_Journal_clear : y_Journal_clear.cls = R_Journal ∧ y_Journal_clear.cls ≠ "java/lang/invoke/MethodHandle" ∧ y_Journal_clear.cls ≠ "java/lang/invoke/VarHandle" ∧ (parseMethodDescriptor y_Journal_clear.desc).map (fun d => d.parameters.length) = some 0 := by decide +kernel
theorem hd_Runner_reset : y_Runner_reset.cls = R_Runner ∧ y_Runner_reset.cls ≠ "java/lang/invoke/MethodHandle" ∧ y_Runner_reset.cls ≠ "java/lang/invoke/VarHandle" ∧ (parseMethodDescriptor y_Runner_reset.desc).map (fun d => d.parameters.length) = some 1 := by decide +kernel
theorem hd_Runner_doNode : y_Runner_doNode.cls = R_Runner ∧ y_Runner_doNode.cls ≠ "java/lang/invoke/MethodHandle" ∧ y_Runner_doNode.cls ≠ "java/lang/invoke/VarHandle" ∧ (parseMethodDescriptor y_Runner_doNode.desc).map (fun d => d.parameters.length) = some 2 := by decide +kernel
theorem hd_Choice_isChosen : y_Choice_isChosen.cls = R_Choice ∧ y_Choice_isChosen.cls ≠ "java/lang/invoke/MethodHandle" ∧ y_Choice_isChosen.cls ≠ "java/lang/invoke/VarHandle" ∧ (parseMethodDescriptor y_Choice_isChosen.desc).map (fun d => d.parameters.length) = some 1 := by decide +kernel
theorem hd_Tree_isDisabled : y_Tree_isDisabled.cls = R_Tree ∧ y_Tree_isDisabled.cls ≠ "java/lang/invoke/MethodHandle" ∧ y_Tree_isDisabled.cls ≠ "java/lang/invoke/VarHandle" ∧ (parseMethodDescriptor y_Tree_isDisabled.desc).map (fun d => d.parameters.length) = some 1 := by decide +kernel
theorem hd_Runner_isBroken : y_Runner_isBroken.cls = R_Runner ∧ y_Runner_isBroken.cls ≠ "java/lang/invoke/MethodHandle" ∧ y_Runner_isBroken.cls ≠ "java/lang/invoke/VarHandle" ∧ (parseMethodDescriptor y_Runner_isBroken.desc).map (fun d => d.parameters.length) = some 0 := by decide +kernel
theorem hd_Journal_roundsWith : y_Journal_roundsWith.cls = R_Journal ∧ y_Journal_roundsWith.cls ≠ "java/lang/invoke/MethodHandle" ∧ y_Journal_roundsWith.cls ≠ "java/lang/invoke/VarHandle" ∧ (parseMethodDescriptor y_Journal_roundsWith.desc).map (fun d => d.parameters.length) = some 1 := by decide +kernel
theorem hd_Journal_writeSkipped : y_Journal_writeSkipped.cls = R_Journal ∧ y_Journal_writeSkipped.cls ≠ "java/lang/invoke/MethodHandle" ∧ y_Journal_writeSkipped.cls ≠ "java/lang/invoke/VarHandle" ∧ (parseMethodDescriptor y_Journal_writeSkipped.desc).map (fun d => d.parameters.length) = some 3 := by decide +kernel
theorem hd_Journal_writeEvent : y_Journal_writeEvent.cls = R_Journal ∧ y_Journal_writeEvent.cls ≠ "java/lang/invoke/MethodHandle" ∧ y_Journal_writeEvent.cls ≠ "java/lang/invoke/VarHandle" ∧ (parseMethodDescriptor y_Journal_writeEvent.desc).map (fun d => d.parameters.length) = some 4 := by decide +kernel
theorem hd_Runner_doContainer : y_Runner_doContainer.cls = R_Runner ∧ y_Runner_doContainer.cls ≠ "java/lang/invoke/MethodHandle" ∧ y_Runner_doContainer.cls ≠ "java/lang/invoke/VarHandle" ∧ (parseMethodDescriptor y_Runner_doContainer.desc).map (fun d => d.parameters.length) = some 2 := by decide +kernel
theorem hd_Journal_writeStarted : y_Journal_writeStarted.cls = R_Journal ∧ y_Journal_writeStarted.cls ≠ "java/lang/invoke/MethodHandle" ∧ y_Journal_writeStarted.cls ≠ "java/lang/invoke/VarHandle" ∧ (parseMethodDescriptor y_Journal_writeStarted.desc).map (fun d => d.parameters.length) = some 3 := by decide +kernel
theorem hd_Tree_isShared : y_Tree_isShared.cls = R_Tree ∧ y_Tree_isShared.cls ≠ "java/lang/invoke/MethodHandle" ∧ y_Tree_isShared.cls ≠ "java/lang/invoke/VarHandle" ∧ (parseMethodDescriptor y_Tree_isShared.desc).map (fun d => d.parameters.length) = some 1 := by decide +kernel
theorem hd_Runner_makeInstance : y_Runner_makeInstance.cls = R_Runner ∧ y_Runner_makeInstance.cls ≠ "java/lang/invoke/MethodHandle" ∧ y_Runner_makeInstance.cls ≠ "java/lang/invoke/VarHandle" ∧ (parseMethodDescriptor y_Runner_makeInstance.desc).map (fun d => d.parameters.length) = some 1 := by decide +kernel
theorem hd_Troubles_clear : y_Troubles_clear.cls = R_Troubles ∧ y_Troubles_clear.cls ≠ "java/lang/invoke/MethodHandle" ∧ y_Troubles_clear.cls ≠ "java/lang/invoke/VarHandle" ∧ (parseMethodDescriptor y_Troubles_clear.desc).map (fun d => d.parameters.length) = some 0 := by decide +kernel
theorem hd_Runner_callIfThere : y_Runner_callIfThere.cls = R_Runner ∧ y_Runner_callIfThere.cls ≠ "java/lang/invoke/MethodHandle" ∧ y_Runner_callIfThere.cls ≠ "java/lang/invoke/VarHandle" ∧ (parseMethodDescriptor y_Runner_callIfThere.desc).map (fun d => d.parameters.length) = some 3 := by decide +kernel
theorem hd_Methods_lengthAt : y_Methods_lengthAt.cls = R_Methods ∧ y_Methods_lengthAt.cls ≠ "java/lang/invoke/MethodHandle" ∧ y_Methods_lengthAt.cls ≠ "java/lang/invoke/VarHandle" ∧ (parseMethodDescriptor y_Methods_lengthAt.desc).map (fun d => d.parameters.length) = some 1 := by decide +kernel
theorem hd_Tree_deadlineOf : y_Tree_deadlineOf.cls = R_Tree ∧ y_Tree_deadlineOf.cls ≠ "java/lang/invoke/MethodHandle" ∧ y_Tree_deadlineOf.cls ≠ "java/lang/invoke/VarHandle" ∧ (parseMethodDescriptor y_Tree_deadlineOf.desc).map (fun d => d.parameters.length) = some 1 := by decide +kernel
theorem hd_Troubles_join : y_Troubles_join.cls = R_Troubles ∧ y_Troubles_join.cls ≠ "java/lang/invoke/MethodHandle" ∧ y_Troubles_join.cls ≠ "java/lang/invoke/VarHandle" ∧ (parseMethodDescriptor y_Troubles_join.desc).map (fun d => d.parameters.length) = some 2 := by decide +kernel
theorem hd_Methods_resultAt : y_Methods_resultAt.cls = R_Methods ∧ y_Methods_resultAt.cls ≠ "java/lang/invoke/MethodHandle" ∧ y_Methods_resultAt.cls ≠ "java/lang/invoke/VarHandle" ∧ (parseMethodDescriptor y_Methods_resultAt.desc).map (fun d => d.parameters.length) = some 1 := by decide +kernel
theorem hd_Methods_codeAt : y_Methods_codeAt.cls = R_Methods ∧ y_Methods_codeAt.cls ≠ "java/lang/invoke/MethodHandle" ∧ y_Methods_codeAt.cls ≠ "java/lang/invoke/VarHandle" ∧ (parseMethodDescriptor y_Methods_codeAt.desc).map (fun d => d.parameters.length) = some 1 := by decide +kernel
theorem hd_Troubles_isEmpty : y_Troubles_isEmpty.cls = R_Troubles ∧ y_Troubles_isEmpty.cls ≠ "java/lang/invoke/MethodHandle" ∧ y_Troubles_isEmpty.cls ≠ "java/lang/invoke/VarHandle" ∧ (parseMethodDescriptor y_Troubles_isEmpty.desc).map (fun d => d.parameters.length) = some 0 := by decide +kernel
theorem hd_Runner_doChildren : y_Runner_doChildren.cls = R_Runner ∧ y_Runner_doChildren.cls ≠ "java/lang/invoke/MethodHandle" ∧ y_Runner_doChildren.cls ≠ "java/lang/invoke/VarHandle" ∧ (parseMethodDescriptor y_Runner_doChildren.desc).map (fun d => d.parameters.length) = some 2 := by decide +kernel
theorem hd_Tree_childAfter : y_Tree_childAfter.cls = R_Tree ∧ y_Tree_childAfter.cls ≠ "java/lang/invoke/MethodHandle" ∧ y_Tree_childAfter.cls ≠ "java/lang/invoke/VarHandle" ∧ (parseMethodDescriptor y_Tree_childAfter.desc).map (fun d => d.parameters.length) = some 2 := by decide +kernel
theorem hd_Tree_rankOf : y_Tree_rankOf.cls = R_Tree ∧ y_Tree_rankOf.cls ≠ "java/lang/invoke/MethodHandle" ∧ y_Tree_rankOf.cls ≠ "java/lang/invoke/VarHandle" ∧ (parseMethodDescriptor y_Tree_rankOf.desc).map (fun d => d.parameters.length) = some 1 := by decide +kernel
theorem hd_Journal_writeContainerFinished : y_Journal_writeContainerFinished.cls = R_Journal ∧ y_Journal_writeContainerFinished.cls ≠ "java/lang/invoke/MethodHandle" ∧ y_Journal_writeContainerFinished.cls ≠ "java/lang/invoke/VarHandle" ∧ (parseMethodDescriptor y_Journal_writeContainerFinished.desc).map (fun d => d.parameters.length) = some 4 := by decide +kernel
theorem hd_Journal_writeOutcome : y_Journal_writeOutcome.cls = R_Journal ∧ y_Journal_writeOutcome.cls ≠ "java/lang/invoke/MethodHandle" ∧ y_Journal_writeOutcome.cls ≠ "java/lang/invoke/VarHandle" ∧ (parseMethodDescriptor y_Journal_writeOutcome.desc).map (fun d => d.parameters.length) = some 2 := by decide +kernel
theorem hd_Troubles_status : y_Troubles_status.cls = R_Troubles ∧ y_Troubles_status.cls ≠ "java/lang/invoke/MethodHandle" ∧ y_Troubles_status.cls ≠ "java/lang/invoke/VarHandle" ∧ (parseMethodDescriptor y_Troubles_status.desc).map (fun d => d.parameters.length) = some 0 := by decide +kernel
theorem hd_Troubles_firstCode : y_Troubles_firstCode.cls = R_Troubles ∧ y_Troubles_firstCode.cls ≠ "java/lang/invoke/MethodHandle" ∧ y_Troubles_firstCode.cls ≠ "java/lang/invoke/VarHandle" ∧ (parseMethodDescriptor y_Troubles_firstCode.desc).map (fun d => d.parameters.length) = some 0 := by decide +kernel
theorem hd_Troubles_sizeBehindFirst : y_Troubles_sizeBehindFirst.cls = R_Troubles ∧ y_Troubles_sizeBehindFirst.cls ≠ "java/lang/invoke/MethodHandle" ∧ y_Troubles_sizeBehindFirst.cls ≠ "java/lang/invoke/VarHandle" ∧ (parseMethodDescriptor y_Troubles_sizeBehindFirst.desc).map (fun d => d.parameters.length) = some 0 := by decide +kernel
theorem hd_Troubles_codeOrNone : y_Troubles_codeOrNone.cls = R_Troubles ∧ y_Troubles_codeOrNone.cls ≠ "java/lang/invoke/MethodHandle" ∧ y_Troubles_codeOrNone.cls ≠ "java/lang/invoke/VarHandle" ∧ (parseMethodDescriptor y_Troubles_codeOrNone.desc).map (fun d => d.parameters.length) = some 1 := by decide +kernel
theorem hd_Runner_doTest : y_Runner_doTest.cls = R_Runner ∧ y_Runner_doTest.cls ≠ "java/lang/invoke/MethodHandle" ∧ y_Runner_doTest.cls ≠ "java/lang/invoke/VarHandle" ∧ (parseMethodDescriptor y_Runner_doTest.desc).map (fun d => d.parameters.length) = some 2 := by decide +kernel
theorem hd_Tree_roundsOf : y_Tree_roundsOf.cls = R_Tree ∧ y_Tree_roundsOf.cls ≠ "java/lang/invoke/MethodHandle" ∧ y_Tree_roundsOf.cls ≠ "java/lang/invoke/VarHandle" ∧ (parseMethodDescriptor y_Tree_roundsOf.desc).map (fun d => d.parameters.length) = some 1 := by decide +kernel
theorem hd_Runner_doRound : y_Runner_doRound.cls = R_Runner ∧ y_Runner_doRound.cls ≠ "java/lang/invoke/MethodHandle" ∧ y_Runner_doRound.cls ≠ "java/lang/invoke/VarHandle" ∧ (parseMethodDescriptor y_Runner_doRound.desc).map (fun d => d.parameters.length) = some 3 := by decide +kernel
theorem hd_Tree_writePath : y_Tree_writePath.cls = R_Tree ∧ y_Tree_writePath.cls ≠ "java/lang/invoke/MethodHandle" ∧ y_Tree_writePath.cls ≠ "java/lang/invoke/VarHandle" ∧ (parseMethodDescriptor y_Tree_writePath.desc).map (fun d => d.parameters.length) = some 2 := by decide +kernel
theorem hd_Runner_makeRoundInstances : y_Runner_makeRoundInstances.cls = R_Runner ∧ y_Runner_makeRoundInstances.cls ≠ "java/lang/invoke/MethodHandle" ∧ y_Runner_makeRoundInstances.cls ≠ "java/lang/invoke/VarHandle" ∧ (parseMethodDescriptor y_Runner_makeRoundInstances.desc).map (fun d => d.parameters.length) = some 1 := by decide +kernel
theorem hd_Runner_openEach : y_Runner_openEach.cls = R_Runner ∧ y_Runner_openEach.cls ≠ "java/lang/invoke/MethodHandle" ∧ y_Runner_openEach.cls ≠ "java/lang/invoke/VarHandle" ∧ (parseMethodDescriptor y_Runner_openEach.desc).map (fun d => d.parameters.length) = some 2 := by decide +kernel
theorem hd_Runner_closeEach : y_Runner_closeEach.cls = R_Runner ∧ y_Runner_closeEach.cls ≠ "java/lang/invoke/MethodHandle" ∧ y_Runner_closeEach.cls ≠ "java/lang/invoke/VarHandle" ∧ (parseMethodDescriptor y_Runner_closeEach.desc).map (fun d => d.parameters.length) = some 2 := by decide +kernel
theorem hd_Journal_writeRoundFinished : y_Journal_writeRoundFinished.cls = R_Journal ∧ y_Journal_writeRoundFinished.cls ≠ "java/lang/invoke/MethodHandle" ∧ y_Journal_writeRoundFinished.cls ≠ "java/lang/invoke/VarHandle" ∧ (parseMethodDescriptor y_Journal_writeRoundFinished.desc).map (fun d => d.parameters.length) = some 5 := by decide +kernel
theorem hd_Journal_hasFailure : y_Journal_hasFailure.cls = R_Journal ∧ y_Journal_hasFailure.cls ≠ "java/lang/invoke/MethodHandle" ∧ y_Journal_hasFailure.cls ≠ "java/lang/invoke/VarHandle" ∧ (parseMethodDescriptor y_Journal_hasFailure.desc).map (fun d => d.parameters.length) = some 0 := by decide +kernel
theorem hd_Engine_event : y_Engine_event.cls = R_Engine ∧ y_Engine_event.cls ≠ "java/lang/invoke/MethodHandle" ∧ y_Engine_event.cls ≠ "java/lang/invoke/VarHandle" ∧ (parseMethodDescriptor y_Engine_event.desc).map (fun d => d.parameters.length) = some 2 := by decide +kernel
theorem hd_Journal_fieldOf : y_Journal_fieldOf.cls = R_Journal ∧ y_Journal_fieldOf.cls ≠ "java/lang/invoke/MethodHandle" ∧ y_Journal_fieldOf.cls ≠ "java/lang/invoke/VarHandle" ∧ (parseMethodDescriptor y_Journal_fieldOf.desc).map (fun d => d.parameters.length) = some 2 := by decide +kernel
theorem hd_Journal_isKept : y_Journal_isKept.cls = R_Journal ∧ y_Journal_isKept.cls ≠ "java/lang/invoke/MethodHandle" ∧ y_Journal_isKept.cls ≠ "java/lang/invoke/VarHandle" ∧ (parseMethodDescriptor y_Journal_isKept.desc).map (fun d => d.parameters.length) = some 1 := by decide +kernel
theorem hd_Math_min : y_Math_min.cls ≠ "java/lang/invoke/MethodHandle" ∧ y_Math_min.cls ≠ "java/lang/invoke/VarHandle" ∧ (parseMethodDescriptor y_Math_min.desc).map (fun d => d.parameters.length) = some 2 := by decide +kernel
theorem hd_Engine_trouble : y_Engine_trouble.cls = R_Engine ∧ y_Engine_trouble.cls ≠ "java/lang/invoke/MethodHandle" ∧ y_Engine_trouble.cls ≠ "java/lang/invoke/VarHandle" ∧ (parseMethodDescriptor y_Engine_trouble.desc).map (fun d => d.parameters.length) = some 2 := by decide +kernel
theorem hd_Journal_codeOf : y_Journal_codeOf.cls = R_Journal ∧ y_Journal_codeOf.cls ≠ "java/lang/invoke/MethodHandle" ∧ y_Journal_codeOf.cls ≠ "java/lang/invoke/VarHandle" ∧ (parseMethodDescriptor y_Journal_codeOf.desc).map (fun d => d.parameters.length) = some 2 := by decide +kernel
theorem hd_Engine_count : y_Engine_count.cls = R_Engine ∧ y_Engine_count.cls ≠ "java/lang/invoke/MethodHandle" ∧ y_Engine_count.cls ≠ "java/lang/invoke/VarHandle" ∧ (parseMethodDescriptor y_Engine_count.desc).map (fun d => d.parameters.length) = some 1 := by decide +kernel
theorem hd_Journal_events : y_Journal_events.cls = R_Journal ∧ y_Journal_events.cls ≠ "java/lang/invoke/MethodHandle" ∧ y_Journal_events.cls ≠ "java/lang/invoke/VarHandle" ∧ (parseMethodDescriptor y_Journal_events.desc).map (fun d => d.parameters.length) = some 0 := by decide +kernel
theorem hd_Journal_skips : y_Journal_skips.cls = R_Journal ∧ y_Journal_skips.cls ≠ "java/lang/invoke/MethodHandle" ∧ y_Journal_skips.cls ≠ "java/lang/invoke/VarHandle" ∧ (parseMethodDescriptor y_Journal_skips.desc).map (fun d => d.parameters.length) = some 0 := by decide +kernel
theorem hd_Journal_troubledContainers : y_Journal_troubledContainers.cls = R_Journal ∧ y_Journal_troubledContainers.cls ≠ "java/lang/invoke/MethodHandle" ∧ y_Journal_troubledContainers.cls ≠ "java/lang/invoke/VarHandle" ∧ (parseMethodDescriptor y_Journal_troubledContainers.desc).map (fun d => d.parameters.length) = some 0 := by decide +kernel
theorem hd_Runner_instancesMade : y_Runner_instancesMade.cls = R_Runner ∧ y_Runner_instancesMade.cls ≠ "java/lang/invoke/MethodHandle" ∧ y_Runner_instancesMade.cls ≠ "java/lang/invoke/VarHandle" ∧ (parseMethodDescriptor y_Runner_instancesMade.desc).map (fun d => d.parameters.length) = some 0 := by decide +kernel
theorem hd_Runner_time : y_Runner_time.cls = R_Runner ∧ y_Runner_time.cls ≠ "java/lang/invoke/MethodHandle" ∧ y_Runner_time.cls ≠ "java/lang/invoke/VarHandle" ∧ (parseMethodDescriptor y_Runner_time.desc).map (fun d => d.parameters.length) = some 0 := by decide +kernel
theorem hd_Runner_calls : y_Runner_calls.cls = R_Runner ∧ y_Runner_calls.cls ≠ "java/lang/invoke/MethodHandle" ∧ y_Runner_calls.cls ≠ "java/lang/invoke/VarHandle" ∧ (parseMethodDescriptor y_Runner_calls.desc).map (fun d => d.parameters.length) = some 0 := by decide +kernel
theorem hd_Choice_chosenTests : y_Choice_chosenTests.cls = R_Choice ∧ y_Choice_chosenTests.cls ≠ "java/lang/invoke/MethodHandle" ∧ y_Choice_chosenTests.cls ≠ "java/lang/invoke/VarHandle" ∧ (parseMethodDescriptor y_Choice_chosenTests.desc).map (fun d => d.parameters.length) = some 0 := by decide +kernel
theorem hd_Model_init : y_Model_init.cls ≠ "java/lang/invoke/MethodHandle" ∧ y_Model_init.cls ≠ "java/lang/invoke/VarHandle" ∧ (parseMethodDescriptor y_Model_init.desc).map (fun d => d.parameters.length) = some 0 := by decide +kernel
theorem hd_Model_container : y_Model_container.cls = R_Model ∧ y_Model_container.cls ≠ "java/lang/invoke/MethodHandle" ∧ y_Model_container.cls ≠ "java/lang/invoke/VarHandle" ∧ (parseMethodDescriptor y_Model_container.desc).map (fun d => d.parameters.length) = some 3 := by decide +kernel
theorem hd_Model_isContainer : y_Model_isContainer.cls = R_Model ∧ y_Model_isContainer.cls ≠ "java/lang/invoke/MethodHandle" ∧ y_Model_isContainer.cls ≠ "java/lang/invoke/VarHandle" ∧ (parseMethodDescriptor y_Model_isContainer.desc).map (fun d => d.parameters.length) = some 1 := by decide +kernel
theorem hd_Model_isNode : y_Model_isNode.cls = R_Model ∧ y_Model_isNode.cls ≠ "java/lang/invoke/MethodHandle" ∧ y_Model_isNode.cls ≠ "java/lang/invoke/VarHandle" ∧ (parseMethodDescriptor y_Model_isNode.desc).map (fun d => d.parameters.length) = some 1 := by decide +kernel
theorem hd_Model_depth : y_Model_depth.cls = R_Model ∧ y_Model_depth.cls ≠ "java/lang/invoke/MethodHandle" ∧ y_Model_depth.cls ≠ "java/lang/invoke/VarHandle" ∧ (parseMethodDescriptor y_Model_depth.desc).map (fun d => d.parameters.length) = some 1 := by decide +kernel
theorem hd_Model_add : y_Model_add.cls = R_Model ∧ y_Model_add.cls ≠ "java/lang/invoke/MethodHandle" ∧ y_Model_add.cls ≠ "java/lang/invoke/VarHandle" ∧ (parseMethodDescriptor y_Model_add.desc).map (fun d => d.parameters.length) = some 5 := by decide +kernel
theorem hd_Model_test : y_Model_test.cls = R_Model ∧ y_Model_test.cls ≠ "java/lang/invoke/MethodHandle" ∧ y_Model_test.cls ≠ "java/lang/invoke/VarHandle" ∧ (parseMethodDescriptor y_Model_test.desc).map (fun d => d.parameters.length) = some 4 := by decide +kernel
theorem hd_Model_mark : y_Model_mark.cls = R_Model ∧ y_Model_mark.cls ≠ "java/lang/invoke/MethodHandle" ∧ y_Model_mark.cls ≠ "java/lang/invoke/VarHandle" ∧ (parseMethodDescriptor y_Model_mark.desc).map (fun d => d.parameters.length) = some 3 := by decide +kernel
theorem hd_Model_method : y_Model_method.cls = R_Model ∧ y_Model_method.cls ≠ "java/lang/invoke/MethodHandle" ∧ y_Model_method.cls ≠ "java/lang/invoke/VarHandle" ∧ (parseMethodDescriptor y_Model_method.desc).map (fun d => d.parameters.length) = some 5 := by decide +kernel
theorem hd_Model_without : y_Model_without.cls = R_Model ∧ y_Model_without.cls ≠ "java/lang/invoke/MethodHandle" ∧ y_Model_without.cls ≠ "java/lang/invoke/VarHandle" ∧ (parseMethodDescriptor y_Model_without.desc).map (fun d => d.parameters.length) = some 2 := by decide +kernel
theorem hd_Model_run : y_Model_run.cls = R_Model ∧ y_Model_run.cls ≠ "java/lang/invoke/MethodHandle" ∧ y_Model_run.cls ≠ "java/lang/invoke/VarHandle" ∧ (parseMethodDescriptor y_Model_run.desc).map (fun d => d.parameters.length) = some 3 := by decide +kernel
theorem hd_Model_choose : y_Model_choose.cls = R_Model ∧ y_Model_choose.cls ≠ "java/lang/invoke/MethodHandle" ∧ y_Model_choose.cls ≠ "java/lang/invoke/VarHandle" ∧ (parseMethodDescriptor y_Model_choose.desc).map (fun d => d.parameters.length) = some 2 := by decide +kernel
theorem hd_Model_doNode : y_Model_doNode.cls = R_Model ∧ y_Model_doNode.cls ≠ "java/lang/invoke/MethodHandle" ∧ y_Model_doNode.cls ≠ "java/lang/invoke/VarHandle" ∧ (parseMethodDescriptor y_Model_doNode.desc).map (fun d => d.parameters.length) = some 1 := by decide +kernel
theorem hd_Model_broken : y_Model_broken.cls = R_Model ∧ y_Model_broken.cls ≠ "java/lang/invoke/MethodHandle" ∧ y_Model_broken.cls ≠ "java/lang/invoke/VarHandle" ∧ (parseMethodDescriptor y_Model_broken.desc).map (fun d => d.parameters.length) = some 0 := by decide +kernel
theorem hd_Model_note : y_Model_note.cls = R_Model ∧ y_Model_note.cls ≠ "java/lang/invoke/MethodHandle" ∧ y_Model_note.cls ≠ "java/lang/invoke/VarHandle" ∧ (parseMethodDescriptor y_Model_note.desc).map (fun d => d.parameters.length) = some 3 := by decide +kernel
theorem hd_Model_enter : y_Model_enter.cls = R_Model ∧ y_Model_enter.cls ≠ "java/lang/invoke/MethodHandle" ∧ y_Model_enter.cls ≠ "java/lang/invoke/VarHandle" ∧ (parseMethodDescriptor y_Model_enter.desc).map (fun d => d.parameters.length) = some 1 := by decide +kernel
theorem hd_Model_call : y_Model_call.cls = R_Model ∧ y_Model_call.cls ≠ "java/lang/invoke/MethodHandle" ∧ y_Model_call.cls ≠ "java/lang/invoke/VarHandle" ∧ (parseMethodDescriptor y_Model_call.desc).map (fun d => d.parameters.length) = some 3 := by decide +kernel
theorem hd_Model_gather : y_Model_gather.cls = R_Model ∧ y_Model_gather.cls ≠ "java/lang/invoke/MethodHandle" ∧ y_Model_gather.cls ≠ "java/lang/invoke/VarHandle" ∧ (parseMethodDescriptor y_Model_gather.desc).map (fun d => d.parameters.length) = some 3 := by decide +kernel
theorem hd_Model_round : y_Model_round.cls = R_Model ∧ y_Model_round.cls ≠ "java/lang/invoke/MethodHandle" ∧ y_Model_round.cls ≠ "java/lang/invoke/VarHandle" ∧ (parseMethodDescriptor y_Model_round.desc).map (fun d => d.parameters.length) = some 2 := by decide +kernel
theorem hd_Model_finish : y_Model_finish.cls = R_Model ∧ y_Model_finish.cls ≠ "java/lang/invoke/MethodHandle" ∧ y_Model_finish.cls ≠ "java/lang/invoke/VarHandle" ∧ (parseMethodDescriptor y_Model_finish.desc).map (fun d => d.parameters.length) = some 4 := by decide +kernel
theorem hd_Model_status : y_Model_status.cls = R_Model ∧ y_Model_status.cls ≠ "java/lang/invoke/MethodHandle" ∧ y_Model_status.cls ≠ "java/lang/invoke/VarHandle" ∧ (parseMethodDescriptor y_Model_status.desc).map (fun d => d.parameters.length) = some 1 := by decide +kernel
theorem hd_Model_nextChild : y_Model_nextChild.cls = R_Model ∧ y_Model_nextChild.cls ≠ "java/lang/invoke/MethodHandle" ∧ y_Model_nextChild.cls ≠ "java/lang/invoke/VarHandle" ∧ (parseMethodDescriptor y_Model_nextChild.desc).map (fun d => d.parameters.length) = some 0 := by decide +kernel
theorem hd_Model_before : y_Model_before.cls = R_Model ∧ y_Model_before.cls ≠ "java/lang/invoke/MethodHandle" ∧ y_Model_before.cls ≠ "java/lang/invoke/VarHandle" ∧ (parseMethodDescriptor y_Model_before.desc).map (fun d => d.parameters.length) = some 2 := by decide +kernel
theorem hd_Model_leave : y_Model_leave.cls = R_Model ∧ y_Model_leave.cls ≠ "java/lang/invoke/MethodHandle" ∧ y_Model_leave.cls ≠ "java/lang/invoke/VarHandle" ∧ (parseMethodDescriptor y_Model_leave.desc).map (fun d => d.parameters.length) = some 0 := by decide +kernel
theorem hd_Model_event : y_Model_event.cls = R_Model ∧ y_Model_event.cls ≠ "java/lang/invoke/MethodHandle" ∧ y_Model_event.cls ≠ "java/lang/invoke/VarHandle" ∧ (parseMethodDescriptor y_Model_event.desc).map (fun d => d.parameters.length) = some 2 := by decide +kernel
theorem hd_Model_trouble : y_Model_trouble.cls = R_Model ∧ y_Model_trouble.cls ≠ "java/lang/invoke/MethodHandle" ∧ y_Model_trouble.cls ≠ "java/lang/invoke/VarHandle" ∧ (parseMethodDescriptor y_Model_trouble.desc).map (fun d => d.parameters.length) = some 2 := by decide +kernel
theorem hd_Model_count : y_Model_count.cls = R_Model ∧ y_Model_count.cls ≠ "java/lang/invoke/MethodHandle" ∧ y_Model_count.cls ≠ "java/lang/invoke/VarHandle" ∧ (parseMethodDescriptor y_Model_count.desc).map (fun d => d.parameters.length) = some 1 := by decide +kernel
theorem cn_Engine_isWithin : ∀ w ∈ (([.static y_Engine_isWithin, .initialized y_Engine_isWithin.cls] : List Cond) ++ [Cond.code y_Engine_isWithin b_Engine_isWithin 3 (some .boolean)]), w ∈ Wl := List.forall_mem_cons.mpr ⟨ks_Engine_isWithin, List.forall_mem_cons.mpr ⟨kz_Engine, List.forall_mem_cons.mpr ⟨kc_Engine_isWithin, fun _ h => absurd h List.not_mem_nil⟩⟩⟩
section
variable {p : Program} {l : Launch} {e : Env} {R : Room} {s : State} {m : MethodId} {args : Array Value} {below : List Frame} {meth : Method} {c : Code} {H : Heap} {locs : List Loc} {cells slots : Nat} {Q : State → Prop} {cc : ByteArray} {pc : Nat} {ls : Array Slot} {rest : List Value}
theorem zx_tableIn (hx : p.tables.exec = Jvm.exec) (hb : c.code = cc) {dflt lo hi : Int} {offs : Array Int} {len : Nat} {a k off : Int} {tgt : Nat} (hdg : decode cc pc = .ok (.tableswitch dflt lo hi offs, len)) (ha : a = k) (hk : -2147483648 ≤ k ∧ k < 2147483648) (h1 : ¬ k < lo) (h2 : ¬ hi < k) (ho : offs[(k - lo).toNat]? = some off) (ht : (pc : Int) + off = (tgt : Int)) (kk : W p l e R s m args below meth c H locs cells slots Q (F0 m tgt ls rest)) : W p l e R s m args below meth c H locs cells slots Q (F0 m pc ls (.int (zI a) :: rest)) := by
  subst ha
  have e1 : (zI a).toInt = a := zI_toInt hk.1 hk.2
  exact lv_tableIn hx hb hdg (by rw [e1]; exact h1) (by rw [e1]; exact h2) (by rw [e1]; exact ho) ht kk
theorem zx_tableOut (hx : p.tables.exec = Jvm.exec) (hb : c.code = cc) {dflt lo hi : Int} {offs : Array Int} {len : Nat} {a : Int} {tgt : Nat} (hdg : decode cc pc = .ok (.tableswitch dflt lo hi offs, len)) (hk : -2147483648 ≤ a ∧ a < 2147483648) (h : a < lo ∨ hi < a) (ht : (pc : Int) + dflt = (tgt : Int)) (kk : W p l e R s m args below meth c H locs cells slots Q (F0 m tgt ls rest)) : W p l e R s m args below meth c H locs cells slots Q (F0 m pc ls (.int (zI a) :: rest)) := by
  have e1 : (zI a).toInt = a := zI_toInt hk.1 hk.2
  exact lv_tableOut hx hb hdg (by rw [e1]; exact h) ht kk
end
theorem min_code : Lib.Math.min.code = b_Math_min := by decide +kernel
theorem min_name : Lib.Math.min.name = y_Math_min := by decide +kernel
theorem zx_mmin {p : Program} {l : Launch} {e : Env} {R : Room} {s : State} {m : MethodId} {args : Array Value} {below : List Frame} {meth : Method} {c : Code} {H : Heap} {locs : List Loc} {cells slots nL : Nat} {Q : State → Prop} {cc : ByteArray} {pc : Nat} {ls : Array Slot} {rest : List Value} {own : String} {index : Nat} (C : CallFix p m c cc nL s args Wl own) (hsz : ls.size = nL) (hm : ∀ w ∈ (([Cond.methodLink own index y_Math_min, Cond.static y_Math_min, Cond.initialized y_Math_min.cls] : List Cond) ++ [Cond.code y_Math_min b_Math_min 2 (some .int)]), w ∈ Wl) (hf : 1 ≤ R.frames) (hl : (rest.map fun v => v.category).sum + 13 ≤ R.locals) (hc : cells ≤ R.cells) (hs : slots ≤ R.slots) {a b : Int} (hb2 : (-2147483648 ≤ a ∧ a < 2147483648) ∧ (-2147483648 ≤ b ∧ b < 2147483648)) (hdg : decode cc pc = .ok (.invokestatic index, 3))
    (k : W p l e R s m args below meth c H locs cells slots Q (F0 m (pc + 3) ls (.int (zI (if b < a then b else a)) :: rest))) : W p l e R s m args below meth c H locs cells slots Q (F0 m pc ls (.int (zI b) :: .int (zI a) :: rest)) := by
  have hw : ∀ w ∈ (([Cond.methodLink own index y_Math_min, Cond.static y_Math_min, Cond.initialized y_Math_min.cls] : List Cond) ++ [Cond.code y_Math_min b_Math_min 2 (some .int)]), w.before args s = true := fun w h => C.2.2.2.2 w (hm w h)
  refine va_mmin C.1 C.2.1 (C.2.2.1.trans hsz.symm) C.2.2.2.1 (index := index) (by rw [min_name]; exact hw _ (by simp)) (by rw [min_name]; exact hw _ (by simp)) (hw _ (by simp [y_Math_min, R_Math])) (by rw [min_name, min_code]; exact hw _ (by simp)) hf hl hc hs hdg ?_
  have e1 : (if zI b < zI a then zI b else zI a) = zI (if b < a then b else a) := by
    by_cases h : b < a
    · rw [if_pos h, if_pos ((zI_lt hb2.2 hb2.1).mpr h)]
    · rw [if_neg h, if_neg (fun q => h ((zI_lt hb2.2 hb2.1).mp q))]
  rw [e1]
  exact k
/-- what holds of the class's tree, of its methods, of the chosen -/
def TI (T : TSt) : Prop := (∀ k, -1 ≤ g_par T k ∧ g_par T k < 24) ∧ (∀ k, 0 ≤ g_dep T k ∧ g_dep T k ≤ 4) ∧ (∀ k, 0 ≤ g_ord T k ∧ g_ord T k ≤ 99) ∧ (∀ k, 0 ≤ g_tag T k ∧ g_tag T k ≤ 255) ∧ (∀ k, g_dis T k = 0 ∨ g_dis T k = 1) ∧ (∀ k, g_shr T k = 0 ∨ g_shr T k = 1) ∧ (∀ k, 0 ≤ g_rnd T k ∧ g_rnd T k ≤ 3) ∧ (∀ k, 0 ≤ g_dln T k ∧ g_dln T k ≤ 50) ∧ (1 ≤ g_tsz T ∧ g_tsz T ≤ 24) ∧ (∀ k, 1 ≤ k → k < g_tsz T → 0 ≤ g_par T k ∧ g_par T k < k) ∧ (g_dep T 0 = 0) ∧ (∀ k, 1 ≤ k → k < g_tsz T → g_dep T k = g_dep T (g_par T k) + 1) ∧ (∀ k, 0 ≤ k → k < g_tsz T → g_rnd T k = 0 → g_dep T k ≤ 3) ∧ (∀ k, 1 ≤ k → k < g_tsz T → g_rnd T (g_par T k) = 0)
theorem TI_sz {T : TSt} (h : TI T) : 1 ≤ g_tsz T ∧ g_tsz T ≤ 24 := h.2.2.2.2.2.2.2.2.1
theorem TI_par {T : TSt} (h : TI T) : ∀ k, 1 ≤ k → k < g_tsz T → 0 ≤ g_par T k ∧ g_par T k < k := h.2.2.2.2.2.2.2.2.2.1
theorem TI_dep0 {T : TSt} (h : TI T) : g_dep T 0 = 0 := h.2.2.2.2.2.2.2.2.2.2.1
theorem TI_dep {T : TSt} (h : TI T) : ∀ k, 1 ≤ k → k < g_tsz T → g_dep T k = g_dep T (g_par T k) + 1 := h.2.2.2.2.2.2.2.2.2.2.2.1
theorem TI_cd {T : TSt} (h : TI T) : ∀ k, 0 ≤ k → k < g_tsz T → g_rnd T k = 0 → g_dep T k ≤ 3 := h.2.2.2.2.2.2.2.2.2.2.2.2.1
theorem TI_pc {T : TSt} (h : TI T) : ∀ k, 1 ≤ k → k < g_tsz T → g_rnd T (g_par T k) = 0 := h.2.2.2.2.2.2.2.2.2.2.2.2.2
theorem TI_up {T : TSt} (h : TI T) (k : Int) : 0 ≤ k → k < g_tsz T → 1 ≤ g_dep T k → 0 ≤ g_par T k ∧ g_par T k < k ∧ g_dep T (g_par T k) = g_dep T k - 1 := by
  intro h0 h1 h2
  have hk : 1 ≤ k := by
    rcases Int.lt_or_le k 1 with q | q
    · have e : k = 0 := by omega
      subst e
      have := TI_dep0 h
      omega
    · exact q
  have := TI_par h k hk h1
  have := TI_dep h k hk h1
  omega
theorem iup_self (f : Int → Int) (j v : Int) : iup f j v j = v := if_pos rfl
theorem iup_ne (f : Int → Int) {j i : Int} (v : Int) (h : i ≠ j) : iup f j v i = f i := if_neg h
theorem iup_b {f : Int → Int} {j v : Int} (h : ∀ k, f k = 0 ∨ f k = 1) (hv : v = 0 ∨ v = 1) : ∀ k, iup f j v k = 0 ∨ iup f j v k = 1 := by
  intro k
  unfold iup
  split
  · exact hv
  · exact h k
def MI (M : MSt) : Prop := (∀ k, g_thr M k = 0 ∨ g_thr M k = 1) ∧ (∀ k, 0 ≤ g_res M k ∧ g_res M k ≤ 2) ∧ (∀ k, 0 ≤ g_cod M k ∧ g_cod M k ≤ 99) ∧ (∀ k, 0 ≤ g_len M k ∧ g_len M k ≤ 50)
def RI (Rr : RSt) : Prop := (∀ k, 0 ≤ g_pth Rr k ∧ g_pth Rr k < 24) ∧ (0 ≤ g_br Rr ∧ g_br Rr ≤ 9)
end
section
def f_Engine_isWithin (a : Int) (lo : Int) (hi : Int) : Int := if a < lo then 0 else if hi < a then 0 else 1
set_option maxHeartbeats 4000000 in
set_option maxRecDepth 100000 in
theorem c_Engine_isWithin (l : Launch) (D : va_G) (cI cZ cQ : ClassId) (sz : Nat) (ws : va_W) (L : List Nat) (hL : ws.map Prod.fst = L) (a : Int) (lo : Int) (hi : Int) (h_a : -2147483648 ≤ a ∧ a < 2147483648) (h_lo : -2147483648 ≤ lo ∧ lo < 2147483648) (h_hi : -2147483648 ≤ hi ∧ hi < 2147483648) : Met l y_Engine_isWithin (Cond.code y_Engine_isWithin b_Engine_isWithin 3 (some .boolean) :: Wl) { frames := 0, cells := 0, slots := 0, locals := 0 } (PE D vwCl (tyE cI cZ cQ) ws sz [.int (zI a), .int (zI lo), .int (zI hi)]) (QEi D vwCl L sz (fun (r : Int32) (_ : Unit) => r = zI (f_Engine_isWithin a lo hi)) (fun (_ : Unit) => ws)) 0 0 (AE L sz) := by
  refine E_start (by decide) hL (Nat.le_of_ble_eq_true rfl) ?_
  intro p e s m args below meth c C hr hlk hnm hsz hK H locs hE ls hl
  have C : CallFix p m c b_Engine_isWithin 3 s args Wl R_Engine := C
  have hl : lv_has ls 3 [(0, .int (zI a)), (1, .int (zI lo)), (2, .int (zI hi))] := hl
  refine lv_iload_n C.1 C.2.1 d_Engine_isWithin_0 rfl (lv_at hl 1 rfl) ?_
  refine lv_iload_n C.1 C.2.1 d_Engine_isWithin_1 rfl (lv_at hl 0 rfl) ?_
  refine zx_icmp_gt (tgt := 14) C.1 C.2.1 d_Engine_isWithin_2 (by decide) (by omega) (fun c_1 => ?_) (fun c_1 => ?_)
  · refine zx_iconst C.1 C.2.1 d_Engine_isWithin_14 ?_
    rw [show f_Engine_isWithin a lo hi = 0 from by simp only [f_Engine_isWithin, if_pos c_1]]
    exact E_zret C hr hlk () (by omega) hE rfl d_Engine_isWithin_15
  · refine lv_iload_n C.1 C.2.1 d_Engine_isWithin_5 rfl (lv_at hl 0 rfl) ?_
    refine lv_iload_n C.1 C.2.1 d_Engine_isWithin_6 rfl (lv_at hl 2 rfl) ?_
    refine zx_icmp_gt (tgt := 14) C.1 C.2.1 d_Engine_isWithin_7 (by decide) (by omega) (fun c_2 => ?_) (fun c_2 => ?_)
    · refine zx_iconst C.1 C.2.1 d_Engine_isWithin_14 ?_
      rw [show f_Engine_isWithin a lo hi = 0 from by simp only [f_Engine_isWithin, if_neg c_1, if_pos c_2]]
      exact E_zret C hr hlk () (by omega) hE rfl d_Engine_isWithin_15
    · refine zx_iconst C.1 C.2.1 d_Engine_isWithin_10 ?_
      refine lv_goto (tgt := 15) C.1 C.2.1 d_Engine_isWithin_11 (by decide) ?_
      rw [show f_Engine_isWithin a lo hi = 1 from by simp only [f_Engine_isWithin, if_neg c_1, if_neg c_2]]
      exact E_zret C hr hlk () (by omega) hE rfl d_Engine_isWithin_15
theorem f_Engine_isWithin_rg (a : Int) (lo : Int) (hi : Int) : f_Engine_isWithin a lo hi = 0 ∨ f_Engine_isWithin a lo hi = 1 := by
  unfold f_Engine_isWithin
  repeat' (first | split | exact Or.inl rfl | exact Or.inr rfl)

set_option maxHeartbeats 4000000 in
set_option maxRecDepth 100000 in
theorem c_Methods_placeOf (l : Launch) (D : va_G) (cI cZ cQ : ClassId) (sz : Nat) (ws : va_W) (L : List Nat) (hL : ws.map Prod.fst = L) (node : Int) (kind : Int)  : Met l y_Methods_placeOf (Cond.code y_Methods_placeOf b_Methods_placeOf 2 (some .int) :: Wl) { frames := 0, cells := 0, slots := 0, locals := 0 } (PE D vwCl (tyE cI cZ cQ) ws sz [.int (zI node), .int (zI kind)]) (QEi D vwCl L sz (fun (r : Int32) (_ : Unit) => r = zI ((node * 7) + kind)) (fun (_ : Unit) => ws)) 0 0 (AE L sz) := by
  refine E_start (by decide) hL (Nat.le_of_ble_eq_true rfl) ?_
  intro p e s m args below meth c C hr hlk hnm hsz hK H locs hE ls hl
  have C : CallFix p m c b_Methods_placeOf 2 s args Wl R_Methods := C
  have hl : lv_has ls 2 [(0, .int (zI node)), (1, .int (zI kind))] := hl
  refine lv_iload_n C.1 C.2.1 d_Methods_placeOf_0 rfl (lv_at hl 0 rfl) ?_
  refine zx_bipush C.1 C.2.1 d_Methods_placeOf_1 (by decide) ?_
  refine zx_imul C.1 C.2.1 d_Methods_placeOf_3 ?_
  refine lv_iload_n C.1 C.2.1 d_Methods_placeOf_4 rfl (lv_at hl 1 rfl) ?_
  refine zx_iadd C.1 C.2.1 d_Methods_placeOf_5 ?_
  exact E_iret C hr hlk () hE rfl d_Methods_placeOf_6

def f_Choice_suits (tags : Int) (wanted : Int) (unwanted : Int) : Int := if wanted = 0 then if (iand tags unwanted) = 0 then 1 else 0 else if (iand tags wanted) = 0 then 0 else if (iand tags unwanted) = 0 then 1 else 0
set_option maxHeartbeats 4000000 in
set_option maxRecDepth 100000 in
theorem c_Choice_suits (l : Launch) (D : va_G) (cI cZ cQ : ClassId) (sz : Nat) (ws : va_W) (L : List Nat) (hL : ws.map Prod.fst = L) (tags : Int) (wanted : Int) (unwanted : Int) (h_wanted : -2147483648 ≤ wanted ∧ wanted < 2147483648) : Met l y_Choice_suits (Cond.code y_Choice_suits b_Choice_suits 3 (some .boolean) :: Wl) { frames := 0, cells := 0, slots := 0, locals := 0 } (PE D vwCl (tyE cI cZ cQ) ws sz [.int (zI tags), .int (zI wanted), .int (zI unwanted)]) (QEi D vwCl L sz (fun (r : Int32) (_ : Unit) => r = zI (f_Choice_suits tags wanted unwanted)) (fun (_ : Unit) => ws)) 0 0 (AE L sz) := by
  refine E_start (by decide) hL (Nat.le_of_ble_eq_true rfl) ?_
  intro p e s m args below meth c C hr hlk hnm hsz hK H locs hE ls hl
  have C : CallFix p m c b_Choice_suits 3 s args Wl R_Choice := C
  have hl : lv_has ls 3 [(0, .int (zI tags)), (1, .int (zI wanted)), (2, .int (zI unwanted))] := hl
  refine lv_iload_n C.1 C.2.1 d_Choice_suits_0 rfl (lv_at hl 1 rfl) ?_
  refine zx_if_eq (tgt := 10) C.1 C.2.1 d_Choice_suits_1 (by decide) (by omega) (fun c_1 => ?_) (fun c_1 => ?_)
  · refine lv_iload_n C.1 C.2.1 d_Choice_suits_10 rfl (lv_at hl 0 rfl) ?_
    refine lv_iload_n C.1 C.2.1 d_Choice_suits_11 rfl (lv_at hl 2 rfl) ?_
    refine zx_iand C.1 C.2.1 d_Choice_suits_12 ?_
    have hb_2 := iand_bd tags unwanted
    refine zx_if_ne (tgt := 20) C.1 C.2.1 d_Choice_suits_13 (by decide) (by omega) (fun c_3 => ?_) (fun c_3 => ?_)
    · refine zx_iconst C.1 C.2.1 d_Choice_suits_20 ?_
      rw [show f_Choice_suits tags wanted unwanted = 0 from by simp only [f_Choice_suits, if_pos c_1, if_neg c_3]]
      exact E_zret C hr hlk () (by omega) hE rfl d_Choice_suits_21
    · refine zx_iconst C.1 C.2.1 d_Choice_suits_16 ?_
      refine lv_goto (tgt := 21) C.1 C.2.1 d_Choice_suits_17 (by decide) ?_
      rw [show f_Choice_suits tags wanted unwanted = 1 from by simp only [f_Choice_suits, if_pos c_1, if_pos c_3]]
      exact E_zret C hr hlk () (by omega) hE rfl d_Choice_suits_21
  · refine lv_iload_n C.1 C.2.1 d_Choice_suits_4 rfl (lv_at hl 0 rfl) ?_
    refine lv_iload_n C.1 C.2.1 d_Choice_suits_5 rfl (lv_at hl 1 rfl) ?_
    refine zx_iand C.1 C.2.1 d_Choice_suits_6 ?_
    have hb_4 := iand_bd tags wanted
    refine zx_if_eq (tgt := 20) C.1 C.2.1 d_Choice_suits_7 (by decide) (by omega) (fun c_5 => ?_) (fun c_5 => ?_)
    · refine zx_iconst C.1 C.2.1 d_Choice_suits_20 ?_
      rw [show f_Choice_suits tags wanted unwanted = 0 from by simp only [f_Choice_suits, if_neg c_1, if_pos c_5]]
      exact E_zret C hr hlk () (by omega) hE rfl d_Choice_suits_21
    · refine lv_iload_n C.1 C.2.1 d_Choice_suits_10 rfl (lv_at hl 0 rfl) ?_
      refine lv_iload_n C.1 C.2.1 d_Choice_suits_11 rfl (lv_at hl 2 rfl) ?_
      refine zx_iand C.1 C.2.1 d_Choice_suits_12 ?_
      have hb_6 := iand_bd tags unwanted
      refine zx_if_ne (tgt := 20) C.1 C.2.1 d_Choice_suits_13 (by decide) (by omega) (fun c_7 => ?_) (fun c_7 => ?_)
      · refine zx_iconst C.1 C.2.1 d_Choice_suits_20 ?_
        rw [show f_Choice_suits tags wanted unwanted = 0 from by simp only [f_Choice_suits, if_neg c_1, if_neg c_5, if_neg c_7]]
        exact E_zret C hr hlk () (by omega) hE rfl d_Choice_suits_21
      · refine zx_iconst C.1 C.2.1 d_Choice_suits_16 ?_
        refine lv_goto (tgt := 21) C.1 C.2.1 d_Choice_suits_17 (by decide) ?_
        rw [show f_Choice_suits tags wanted unwanted = 1 from by simp only [f_Choice_suits, if_neg c_1, if_neg c_5, if_pos c_7]]
        exact E_zret C hr hlk () (by omega) hE rfl d_Choice_suits_21
theorem f_Choice_suits_rg (tags : Int) (wanted : Int) (unwanted : Int) : f_Choice_suits tags wanted unwanted = 0 ∨ f_Choice_suits tags wanted unwanted = 1 := by
  unfold f_Choice_suits
  repeat' (first | split | exact Or.inl rfl | exact Or.inr rfl | exact f_Engine_isWithin_rg _ _ _)

set_option maxHeartbeats 4000000 in
set_option maxRecDepth 100000 in
theorem c_Tree_size (l : Launch) (D : va_G) (cI cZ cQ : ClassId) (ad : Nat → Nat) (sz : Nat) (T : TSt) (M : MSt) (Cc : CSt) (J : JSt) (Rr : RSt) (Ls : LSt)   : Met l y_Tree_size (Cond.code y_Tree_size b_Tree_size 1 (some .int) :: Wl) { frames := 0, cells := 0, slots := 0, locals := 0 } (PE D vwCl (tyE cI cZ cQ) (wE cI cZ cQ ad T M Cc J Rr Ls) sz [.ref (ad 1)]) (QEi D vwCl (adL ad) sz (fun (r : Int32) (_ : Unit) => r = zI (g_tsz T)) (fun (_ : Unit) => (wE cI cZ cQ ad T M Cc J Rr Ls))) 0 0 (AE (adL ad) sz) := by
  refine E_start (by decide) wE_L (Nat.le_of_ble_eq_true rfl) ?_
  intro p e s m args below meth c C hr hlk hnm hsz hK H locs hE ls hl
  have C : CallFix p m c b_Tree_size 1 s args Wl R_Tree := C
  have hl : lv_has ls 1 [(0, .ref (ad 1))] := hl
  refine lv_aload_n C.1 C.2.1 d_Tree_size_0 rfl (lv_at hl 0 rfl) ?_
  refine gf_Tree_37 (x := (g_tsz T)) C hK hE rfl d_Tree_size_1 ?_
  exact E_iret C hr hlk () hE rfl d_Tree_size_4

def f_Tree_isFull (T : TSt) : Int := if (g_tsz T) < 24 then 0 else 1
set_option maxHeartbeats 4000000 in
set_option maxRecDepth 100000 in
theorem c_Tree_isFull (l : Launch) (D : va_G) (cI cZ cQ : ClassId) (ad : Nat → Nat) (sz : Nat) (T : TSt) (M : MSt) (Cc : CSt) (J : JSt) (Rr : RSt) (Ls : LSt)  (hT : TI T) : Met l y_Tree_isFull (Cond.code y_Tree_isFull b_Tree_isFull 1 (some .boolean) :: Wl) { frames := 0, cells := 0, slots := 0, locals := 0 } (PE D vwCl (tyE cI cZ cQ) (wE cI cZ cQ ad T M Cc J Rr Ls) sz [.ref (ad 1)]) (QEi D vwCl (adL ad) sz (fun (r : Int32) (_ : Unit) => r = zI (f_Tree_isFull T)) (fun (_ : Unit) => (wE cI cZ cQ ad T M Cc J Rr Ls))) 0 0 (AE (adL ad) sz) := by
  refine E_start (by decide) wE_L (Nat.le_of_ble_eq_true rfl) ?_
  intro p e s m args below meth c C hr hlk hnm hsz hK H locs hE ls hl
  have C : CallFix p m c b_Tree_isFull 1 s args Wl R_Tree := C
  have hl : lv_has ls 1 [(0, .ref (ad 1))] := hl
  have htsz : 1 ≤ g_tsz T ∧ g_tsz T ≤ 24 := hT.2.2.2.2.2.2.2.2.1
  refine lv_aload_n C.1 C.2.1 d_Tree_isFull_0 rfl (lv_at hl 0 rfl) ?_
  refine gf_Tree_37 (x := (g_tsz T)) C hK hE rfl d_Tree_isFull_1 ?_
  refine zx_bipush C.1 C.2.1 d_Tree_isFull_4 (by decide) ?_
  refine zx_icmp_lt (tgt := 13) C.1 C.2.1 d_Tree_isFull_6 (by decide) (by omega) (fun c_1 => ?_) (fun c_1 => ?_)
  · refine zx_iconst C.1 C.2.1 d_Tree_isFull_13 ?_
    rw [show f_Tree_isFull T = 0 from by simp only [f_Tree_isFull, if_pos c_1]]
    exact E_zret C hr hlk () (by omega) hE rfl d_Tree_isFull_14
  · refine zx_iconst C.1 C.2.1 d_Tree_isFull_9 ?_
    refine lv_goto (tgt := 14) C.1 C.2.1 d_Tree_isFull_10 (by decide) ?_
    rw [show f_Tree_isFull T = 1 from by simp only [f_Tree_isFull, if_neg c_1]]
    exact E_zret C hr hlk () (by omega) hE rfl d_Tree_isFull_14
theorem f_Tree_isFull_rg (T : TSt) : f_Tree_isFull T = 0 ∨ f_Tree_isFull T = 1 := by
  unfold f_Tree_isFull
  repeat' (first | split | exact Or.inl rfl | exact Or.inr rfl | exact f_Engine_isWithin_rg _ _ _ | exact f_Choice_suits_rg _ _ _)

def f_Tree_isNode (T : TSt) (node : Int) : Int := (f_Engine_isWithin node 0 ((g_tsz T) - 1))
set_option maxHeartbeats 4000000 in
set_option maxRecDepth 100000 in
theorem c_Tree_isNode (l : Launch) (D : va_G) (cI cZ cQ : ClassId) (ad : Nat → Nat) (sz : Nat) (T : TSt) (M : MSt) (Cc : CSt) (J : JSt) (Rr : RSt) (Ls : LSt) (node : Int) (hT : TI T) (h_node : -2147483648 ≤ node ∧ node < 2147483648) : Met l y_Tree_isNode (Cond.code y_Tree_isNode b_Tree_isNode 2 (some .boolean) :: Wl) { frames := 1, cells := 0, slots := 0, locals := 22 } (PE D vwCl (tyE cI cZ cQ) (wE cI cZ cQ ad T M Cc J Rr Ls) sz [.ref (ad 1), .int (zI node)]) (QEi D vwCl (adL ad) sz (fun (r : Int32) (_ : Unit) => r = zI (f_Tree_isNode T node)) (fun (_ : Unit) => (wE cI cZ cQ ad T M Cc J Rr Ls))) 0 0 (AE (adL ad) sz) := by
  refine E_start (by decide) wE_L (Nat.le_of_ble_eq_true rfl) ?_
  intro p e s m args below meth c C hr hlk hnm hsz hK H locs hE ls hl
  have C : CallFix p m c b_Tree_isNode 2 s args Wl R_Tree := C
  have hl : lv_has ls 2 [(0, .ref (ad 1)), (1, .int (zI node))] := hl
  have htsz : 1 ≤ g_tsz T ∧ g_tsz T ≤ 24 := hT.2.2.2.2.2.2.2.2.1
  refine lv_iload_n C.1 C.2.1 d_Tree_isNode_0 rfl (lv_at hl 1 rfl) ?_
  refine zx_iconst C.1 C.2.1 d_Tree_isNode_1 ?_
  refine lv_aload_n C.1 C.2.1 d_Tree_isNode_2 rfl (lv_at hl 0 rfl) ?_
  refine gf_Tree_37 (x := (g_tsz T)) C hK hE rfl d_Tree_isNode_3 ?_
  refine zx_iconst C.1 C.2.1 d_Tree_isNode_6 ?_
  refine zx_isub C.1 C.2.1 d_Tree_isNode_7 ?_
  refine E_calli hsz hE (va_runSN (As := [.int (zI node), .int (zI 0), .int (zI ((g_tsz T) - 1))]) (rest := []) C (c_Engine_isWithin l D cI cZ cQ H.size (wE cI cZ cQ ad T M Cc J Rr Ls) (adL ad) wE_L node 0 ((g_tsz T) - 1) (show -2147483648 ≤ node ∧ node < 2147483648 by omega) (show -2147483648 ≤ 0 ∧ 0 < 2147483648 by omega) (show -2147483648 ≤ ((g_tsz T) - 1) ∧ ((g_tsz T) - 1) < 2147483648 by omega)) (E_cwN C.2.2.2.2 lw_good hK.2.1 cn_Engine_isWithin rfl rfl hd_Engine_isWithin ⟨Nat.le_of_ble_eq_true rfl, Nat.le_of_ble_eq_true rfl⟩) (E_preS hK hE) rfl rfl hl.1 rfl (lv_room (Nat.le_of_ble_eq_true rfl)) d_Tree_isNode_8 ⟨Nat.zero_le _, Nat.zero_le _⟩) (fun r u H locs hw hE => ?_)
  subst hw
  have hb_1 := f_Engine_isWithin_rg node 0 ((g_tsz T) - 1)
  rw [show f_Tree_isNode T node = (f_Engine_isWithin node 0 ((g_tsz T) - 1)) from rfl]
  exact E_zret C hr hlk () (by omega) hE rfl d_Tree_isNode_11
theorem f_Tree_isNode_rg (T : TSt) (node : Int) : f_Tree_isNode T node = 0 ∨ f_Tree_isNode T node = 1 := by
  unfold f_Tree_isNode
  repeat' (first | split | exact Or.inl rfl | exact Or.inr rfl | exact f_Engine_isWithin_rg _ _ _ | exact f_Choice_suits_rg _ _ _ | exact f_Tree_isFull_rg _)

set_option maxHeartbeats 4000000 in
set_option maxRecDepth 100000 in
theorem c_Tree_parentOf (l : Launch) (D : va_G) (cI cZ cQ : ClassId) (ad : Nat → Nat) (sz : Nat) (T : TSt) (M : MSt) (Cc : CSt) (J : JSt) (Rr : RSt) (Ls : LSt) (node : Int) (h_node : 0 ≤ node ∧ node < 24) : Met l y_Tree_parentOf (Cond.code y_Tree_parentOf b_Tree_parentOf 2 (some .int) :: Wl) { frames := 0, cells := 0, slots := 0, locals := 0 } (PE D vwCl (tyE cI cZ cQ) (wE cI cZ cQ ad T M Cc J Rr Ls) sz [.ref (ad 1), .int (zI node)]) (QEi D vwCl (adL ad) sz (fun (r : Int32) (_ : Unit) => r = zI ((g_par T) node)) (fun (_ : Unit) => (wE cI cZ cQ ad T M Cc J Rr Ls))) 0 0 (AE (adL ad) sz) := by
  refine E_start (by decide) wE_L (Nat.le_of_ble_eq_true rfl) ?_
  intro p e s m args below meth c C hr hlk hnm hsz hK H locs hE ls hl
  have C : CallFix p m c b_Tree_parentOf 2 s args Wl R_Tree := C
  have hl : lv_has ls 2 [(0, .ref (ad 1)), (1, .int (zI node))] := hl
  refine lv_aload_n C.1 C.2.1 d_Tree_parentOf_0 rfl (lv_at hl 0 rfl) ?_
  refine gf_Tree_9 C hK hE d_Tree_parentOf_1 ?_
  refine lv_iload_n C.1 C.2.1 d_Tree_parentOf_4 rfl (lv_at hl 1 rfl) ?_
  refine al_par (x := ((g_par T) node)) C hK hE (by omega) rfl d_Tree_parentOf_5 ?_
  exact E_iret C hr hlk () hE rfl d_Tree_parentOf_6

set_option maxHeartbeats 4000000 in
set_option maxRecDepth 100000 in
theorem c_Tree_depthOf (l : Launch) (D : va_G) (cI cZ cQ : ClassId) (ad : Nat → Nat) (sz : Nat) (T : TSt) (M : MSt) (Cc : CSt) (J : JSt) (Rr : RSt) (Ls : LSt) (node : Int) (h_node : 0 ≤ node ∧ node < 24) : Met l y_Tree_depthOf (Cond.code y_Tree_depthOf b_Tree_depthOf 2 (some .int) :: Wl) { frames := 0, cells := 0, slots := 0, locals := 0 } (PE D vwCl (tyE cI cZ cQ) (wE cI cZ cQ ad T M Cc J Rr Ls) sz [.ref (ad 1), .int (zI node)]) (QEi D vwCl (adL ad) sz (fun (r : Int32) (_ : Unit) => r = zI ((g_dep T) node)) (fun (_ : Unit) => (wE cI cZ cQ ad T M Cc J Rr Ls))) 0 0 (AE (adL ad) sz) := by
  refine E_start (by decide) wE_L (Nat.le_of_ble_eq_true rfl) ?_
  intro p e s m args below meth c C hr hlk hnm hsz hK H locs hE ls hl
  have C : CallFix p m c b_Tree_depthOf 2 s args Wl R_Tree := C
  have hl : lv_has ls 2 [(0, .ref (ad 1)), (1, .int (zI node))] := hl
  refine lv_aload_n C.1 C.2.1 d_Tree_depthOf_0 rfl (lv_at hl 0 rfl) ?_
  refine gf_Tree_15 C hK hE d_Tree_depthOf_1 ?_
  refine lv_iload_n C.1 C.2.1 d_Tree_depthOf_4 rfl (lv_at hl 1 rfl) ?_
  refine al_dep (x := ((g_dep T) node)) C hK hE (by omega) rfl d_Tree_depthOf_5 ?_
  exact E_iret C hr hlk () hE rfl d_Tree_depthOf_6

set_option maxHeartbeats 4000000 in
set_option maxRecDepth 100000 in
theorem c_Tree_tagsOf (l : Launch) (D : va_G) (cI cZ cQ : ClassId) (ad : Nat → Nat) (sz : Nat) (T : TSt) (M : MSt) (Cc : CSt) (J : JSt) (Rr : RSt) (Ls : LSt) (node : Int) (h_node : 0 ≤ node ∧ node < 24) : Met l y_Tree_tagsOf (Cond.code y_Tree_tagsOf b_Tree_tagsOf 2 (some .int) :: Wl) { frames := 0, cells := 0, slots := 0, locals := 0 } (PE D vwCl (tyE cI cZ cQ) (wE cI cZ cQ ad T M Cc J Rr Ls) sz [.ref (ad 1), .int (zI node)]) (QEi D vwCl (adL ad) sz (fun (r : Int32) (_ : Unit) => r = zI ((g_tag T) node)) (fun (_ : Unit) => (wE cI cZ cQ ad T M Cc J Rr Ls))) 0 0 (AE (adL ad) sz) := by
  refine E_start (by decide) wE_L (Nat.le_of_ble_eq_true rfl) ?_
  intro p e s m args below meth c C hr hlk hnm hsz hK H locs hE ls hl
  have C : CallFix p m c b_Tree_tagsOf 2 s args Wl R_Tree := C
  have hl : lv_has ls 2 [(0, .ref (ad 1)), (1, .int (zI node))] := hl
  refine lv_aload_n C.1 C.2.1 d_Tree_tagsOf_0 rfl (lv_at hl 0 rfl) ?_
  refine gf_Tree_21 C hK hE d_Tree_tagsOf_1 ?_
  refine lv_iload_n C.1 C.2.1 d_Tree_tagsOf_4 rfl (lv_at hl 1 rfl) ?_
  refine al_tag (x := ((g_tag T) node)) C hK hE (by omega) rfl d_Tree_tagsOf_5 ?_
  exact E_iret C hr hlk () hE rfl d_Tree_tagsOf_6

set_option maxHeartbeats 4000000 in
set_option maxRecDepth 100000 in
theorem c_Tree_roundsOf (l : Launch) (D : va_G) (cI cZ cQ : ClassId) (ad : Nat → Nat) (sz : Nat) (T : TSt) (M : MSt) (Cc : CSt) (J : JSt) (Rr : RSt) (Ls : LSt) (node : Int) (h_node : 0 ≤ node ∧ node < 24) : Met l y_Tree_roundsOf (Cond.code y_Tree_roundsOf b_Tree_roundsOf 2 (some .int) :: Wl) { frames := 0, cells := 0, slots := 0, locals := 0 } (PE D vwCl (tyE cI cZ cQ) (wE cI cZ cQ ad T M Cc J Rr Ls) sz [.ref (ad 1), .int (zI node)]) (QEi D vwCl (adL ad) sz (fun (r : Int32) (_ : Unit) => r = zI ((g_rnd T) node)) (fun (_ : Unit) => (wE cI cZ cQ ad T M Cc J Rr Ls))) 0 0 (AE (adL ad) sz) := by
  refine E_start (by decide) wE_L (Nat.le_of_ble_eq_true rfl) ?_
  intro p e s m args below meth c C hr hlk hnm hsz hK H locs hE ls hl
  have C : CallFix p m c b_Tree_roundsOf 2 s args Wl R_Tree := C
  have hl : lv_has ls 2 [(0, .ref (ad 1)), (1, .int (zI node))] := hl
  refine lv_aload_n C.1 C.2.1 d_Tree_roundsOf_0 rfl (lv_at hl 0 rfl) ?_
  refine gf_Tree_31 C hK hE d_Tree_roundsOf_1 ?_
  refine lv_iload_n C.1 C.2.1 d_Tree_roundsOf_4 rfl (lv_at hl 1 rfl) ?_
  refine al_rnd (x := ((g_rnd T) node)) C hK hE (by omega) rfl d_Tree_roundsOf_5 ?_
  exact E_iret C hr hlk () hE rfl d_Tree_roundsOf_6

set_option maxHeartbeats 4000000 in
set_option maxRecDepth 100000 in
theorem c_Tree_deadlineOf (l : Launch) (D : va_G) (cI cZ cQ : ClassId) (ad : Nat → Nat) (sz : Nat) (T : TSt) (M : MSt) (Cc : CSt) (J : JSt) (Rr : RSt) (Ls : LSt) (node : Int) (h_node : 0 ≤ node ∧ node < 24) : Met l y_Tree_deadlineOf (Cond.code y_Tree_deadlineOf b_Tree_deadlineOf 2 (some .int) :: Wl) { frames := 0, cells := 0, slots := 0, locals := 0 } (PE D vwCl (tyE cI cZ cQ) (wE cI cZ cQ ad T M Cc J Rr Ls) sz [.ref (ad 1), .int (zI node)]) (QEi D vwCl (adL ad) sz (fun (r : Int32) (_ : Unit) => r = zI ((g_dln T) node)) (fun (_ : Unit) => (wE cI cZ cQ ad T M Cc J Rr Ls))) 0 0 (AE (adL ad) sz) := by
  refine E_start (by decide) wE_L (Nat.le_of_ble_eq_true rfl) ?_
  intro p e s m args below meth c C hr hlk hnm hsz hK H locs hE ls hl
  have C : CallFix p m c b_Tree_deadlineOf 2 s args Wl R_Tree := C
  have hl : lv_has ls 2 [(0, .ref (ad 1)), (1, .int (zI node))] := hl
  refine lv_aload_n C.1 C.2.1 d_Tree_deadlineOf_0 rfl (lv_at hl 0 rfl) ?_
  refine gf_Tree_34 C hK hE d_Tree_deadlineOf_1 ?_
  refine lv_iload_n C.1 C.2.1 d_Tree_deadlineOf_4 rfl (lv_at hl 1 rfl) ?_
  refine al_dln (x := ((g_dln T) node)) C hK hE (by omega) rfl d_Tree_deadlineOf_5 ?_
  exact E_iret C hr hlk () hE rfl d_Tree_deadlineOf_6

set_option maxHeartbeats 4000000 in
set_option maxRecDepth 100000 in
theorem c_Tree_isDisabled (l : Launch) (D : va_G) (cI cZ cQ : ClassId) (ad : Nat → Nat) (sz : Nat) (T : TSt) (M : MSt) (Cc : CSt) (J : JSt) (Rr : RSt) (Ls : LSt) (node : Int) (hT : TI T) (h_node : 0 ≤ node ∧ node < 24) : Met l y_Tree_isDisabled (Cond.code y_Tree_isDisabled b_Tree_isDisabled 2 (some .boolean) :: Wl) { frames := 0, cells := 0, slots := 0, locals := 0 } (PE D vwCl (tyE cI cZ cQ) (wE cI cZ cQ ad T M Cc J Rr Ls) sz [.ref (ad 1), .int (zI node)]) (QEi D vwCl (adL ad) sz (fun (r : Int32) (_ : Unit) => r = zI ((g_dis T) node)) (fun (_ : Unit) => (wE cI cZ cQ ad T M Cc J Rr Ls))) 0 0 (AE (adL ad) sz) := by
  refine E_start (by decide) wE_L (Nat.le_of_ble_eq_true rfl) ?_
  intro p e s m args below meth c C hr hlk hnm hsz hK H locs hE ls hl
  have C : CallFix p m c b_Tree_isDisabled 2 s args Wl R_Tree := C
  have hl : lv_has ls 2 [(0, .ref (ad 1)), (1, .int (zI node))] := hl
  refine lv_aload_n C.1 C.2.1 d_Tree_isDisabled_0 rfl (lv_at hl 0 rfl) ?_
  refine gf_Tree_24 C hK hE d_Tree_isDisabled_1 ?_
  refine lv_iload_n C.1 C.2.1 d_Tree_isDisabled_4 rfl (lv_at hl 1 rfl) ?_
  refine al_dis (x := ((g_dis T) node)) C hK hE (by omega) rfl d_Tree_isDisabled_5 ?_
  have hb_1 : (g_dis T) node = 0 ∨ (g_dis T) node = 1 := hT.2.2.2.2.1 node
  exact E_zret C hr hlk () (by omega) hE rfl d_Tree_isDisabled_6

set_option maxHeartbeats 4000000 in
set_option maxRecDepth 100000 in
theorem c_Tree_isShared (l : Launch) (D : va_G) (cI cZ cQ : ClassId) (ad : Nat → Nat) (sz : Nat) (T : TSt) (M : MSt) (Cc : CSt) (J : JSt) (Rr : RSt) (Ls : LSt) (node : Int) (hT : TI T) (h_node : 0 ≤ node ∧ node < 24) : Met l y_Tree_isShared (Cond.code y_Tree_isShared b_Tree_isShared 2 (some .boolean) :: Wl) { frames := 0, cells := 0, slots := 0, locals := 0 } (PE D vwCl (tyE cI cZ cQ) (wE cI cZ cQ ad T M Cc J Rr Ls) sz [.ref (ad 1), .int (zI node)]) (QEi D vwCl (adL ad) sz (fun (r : Int32) (_ : Unit) => r = zI ((g_shr T) node)) (fun (_ : Unit) => (wE cI cZ cQ ad T M Cc J Rr Ls))) 0 0 (AE (adL ad) sz) := by
  refine E_start (by decide) wE_L (Nat.le_of_ble_eq_true rfl) ?_
  intro p e s m args below meth c C hr hlk hnm hsz hK H locs hE ls hl
  have C : CallFix p m c b_Tree_isShared 2 s args Wl R_Tree := C
  have hl : lv_has ls 2 [(0, .ref (ad 1)), (1, .int (zI node))] := hl
  refine lv_aload_n C.1 C.2.1 d_Tree_isShared_0 rfl (lv_at hl 0 rfl) ?_
  refine gf_Tree_28 C hK hE d_Tree_isShared_1 ?_
  refine lv_iload_n C.1 C.2.1 d_Tree_isShared_4 rfl (lv_at hl 1 rfl) ?_
  refine al_shr (x := ((g_shr T) node)) C hK hE (by omega) rfl d_Tree_isShared_5 ?_
  have hb_1 : (g_shr T) node = 0 ∨ (g_shr T) node = 1 := hT.2.2.2.2.2.1 node
  exact E_zret C hr hlk () (by omega) hE rfl d_Tree_isShared_6
end
section
theorem isWithin_t {a lo hi : Int} (h : ¬ f_Engine_isWithin a lo hi = 0) : lo ≤ a ∧ a ≤ hi := by
  unfold f_Engine_isWithin at h
  split at h
  · omega
  · split at h <;> omega
theorem isWithin_f {a lo hi : Int} (h : f_Engine_isWithin a lo hi = 0) : a < lo ∨ hi < a := by
  unfold f_Engine_isWithin at h
  split at h
  · omega
  · split at h <;> omega
theorem isNode_t {T : TSt} {node : Int} (h : ¬ f_Tree_isNode T node = 0) : 0 ≤ node ∧ node < g_tsz T := by
  have := isWithin_t h
  omega
def f_Tree_isContainer (T : TSt) (node : Int) : Int := if (f_Tree_isNode T node) = 0 then 0 else if ((g_rnd T) node) = 0 then 1 else 0
set_option maxHeartbeats 4000000 in
set_option maxRecDepth 100000 in
theorem c_Tree_isContainer (l : Launch) (D : va_G) (cI cZ cQ : ClassId) (ad : Nat → Nat) (sz : Nat) (T : TSt) (M : MSt) (Cc : CSt) (J : JSt) (Rr : RSt) (Ls : LSt) (node : Int) (hT : TI T) (h_node : -2147483648 ≤ node ∧ node < 2147483648) : Met l y_Tree_isContainer (Cond.code y_Tree_isContainer b_Tree_isContainer 2 (some .boolean) :: Wl) { frames := 2, cells := 0, slots := 0, locals := 43 } (PE D vwCl (tyE cI cZ cQ) (wE cI cZ cQ ad T M Cc J Rr Ls) sz [.ref (ad 1), .int (zI node)]) (QEi D vwCl (adL ad) sz (fun (r : Int32) (_ : Unit) => r = zI (f_Tree_isContainer T node)) (fun (_ : Unit) => (wE cI cZ cQ ad T M Cc J Rr Ls))) 0 0 (AE (adL ad) sz) := by
  refine E_start (by decide) wE_L (Nat.le_of_ble_eq_true rfl) ?_
  intro p e s m args below meth c C hr hlk hnm hsz hK H locs hE ls hl
  have C : CallFix p m c b_Tree_isContainer 2 s args Wl R_Tree := C
  have hl : lv_has ls 2 [(0, .ref (ad 1)), (1, .int (zI node))] := hl
  have htsz : 1 ≤ g_tsz T ∧ g_tsz T ≤ 24 := hT.2.2.2.2.2.2.2.2.1
  refine lv_aload_n C.1 C.2.1 d_Tree_isContainer_0 rfl (lv_at hl 0 rfl) ?_
  refine lv_iload_n C.1 C.2.1 d_Tree_isContainer_1 rfl (lv_at hl 1 rfl) ?_
  refine E_calli hsz hE (va_runV (As := [.int (zI node)]) (rest := []) C (c_Tree_isNode l D cI cZ cQ ad H.size T M Cc J Rr Ls node hT (show -2147483648 ≤ node ∧ node < 2147483648 by omega)) (E_cwV C.2.2.2.2 lw_good cw_Tree_45 rfl rfl hd_Tree_isNode ⟨Nat.le_of_ble_eq_true rfl, Nat.le_of_ble_eq_true rfl⟩) (E_preV hK hE (q := (R_Tree, F_Tree, 9)) (ci := 4) (q0 := 1) rfl rfl) rfl rfl hl.1 rfl (lv_room (Nat.le_of_ble_eq_true rfl)) d_Tree_isContainer_2 ⟨Nat.zero_le _, Nat.zero_le _⟩) (fun r u H locs hw hE => ?_)
  subst hw
  have hb_1 := f_Tree_isNode_rg T node
  refine zx_if_eq (tgt := 21) C.1 C.2.1 d_Tree_isContainer_5 (by decide) (by omega) (fun c_2 => ?_) (fun c_2 => ?_)
  · refine zx_iconst C.1 C.2.1 d_Tree_isContainer_21 ?_
    rw [show f_Tree_isContainer T node = 0 from by simp only [f_Tree_isContainer, if_pos c_2]]
    exact E_zret C hr hlk () (by omega) hE rfl d_Tree_isContainer_22
  · have hn_3 := isNode_t c_2
    refine lv_aload_n C.1 C.2.1 d_Tree_isContainer_8 rfl (lv_at hl 0 rfl) ?_
    refine gf_Tree_31 C hK hE d_Tree_isContainer_9 ?_
    refine lv_iload_n C.1 C.2.1 d_Tree_isContainer_12 rfl (lv_at hl 1 rfl) ?_
    refine al_rnd (x := ((g_rnd T) node)) C hK hE (by omega) rfl d_Tree_isContainer_13 ?_
    have hb_4 : 0 ≤ (g_rnd T) node ∧ (g_rnd T) node ≤ 3 := hT.2.2.2.2.2.2.1 node
    refine zx_if_ne (tgt := 21) C.1 C.2.1 d_Tree_isContainer_14 (by decide) (by omega) (fun c_5 => ?_) (fun c_5 => ?_)
    · refine zx_iconst C.1 C.2.1 d_Tree_isContainer_21 ?_
      rw [show f_Tree_isContainer T node = 0 from by simp only [f_Tree_isContainer, if_neg c_2, if_neg c_5]]
      exact E_zret C hr hlk () (by omega) hE rfl d_Tree_isContainer_22
    · refine zx_iconst C.1 C.2.1 d_Tree_isContainer_17 ?_
      refine lv_goto (tgt := 22) C.1 C.2.1 d_Tree_isContainer_18 (by decide) ?_
      rw [show f_Tree_isContainer T node = 1 from by simp only [f_Tree_isContainer, if_neg c_2, if_pos c_5]]
      exact E_zret C hr hlk () (by omega) hE rfl d_Tree_isContainer_22
theorem f_Tree_isContainer_rg (T : TSt) (node : Int) : f_Tree_isContainer T node = 0 ∨ f_Tree_isContainer T node = 1 := by
  unfold f_Tree_isContainer
  repeat' (first | split | exact Or.inl rfl | exact Or.inr rfl | exact f_Engine_isWithin_rg _ _ _ | exact f_Choice_suits_rg _ _ _ | exact f_Tree_isFull_rg _ | exact f_Tree_isNode_rg _ _)

def f_Tree_mayHave (T : TSt) (node : Int) (kind : Int) : Int := if (f_Tree_isNode T node) = 0 then 0 else if ((g_rnd T) node) = 0 then (f_Engine_isWithin kind 0 3) else (f_Engine_isWithin kind 4 ((4 + ((g_rnd T) node)) - 1))
set_option maxHeartbeats 4000000 in
set_option maxRecDepth 100000 in
theorem c_Tree_mayHave (l : Launch) (D : va_G) (cI cZ cQ : ClassId) (ad : Nat → Nat) (sz : Nat) (T : TSt) (M : MSt) (Cc : CSt) (J : JSt) (Rr : RSt) (Ls : LSt) (node : Int) (kind : Int) (hT : TI T) (h_node : -2147483648 ≤ node ∧ node < 2147483648) (h_kind : -2147483648 ≤ kind ∧ kind < 2147483648) : Met l y_Tree_mayHave (Cond.code y_Tree_mayHave b_Tree_mayHave 3 (some .boolean) :: Wl) { frames := 2, cells := 0, slots := 0, locals := 43 } (PE D vwCl (tyE cI cZ cQ) (wE cI cZ cQ ad T M Cc J Rr Ls) sz [.ref (ad 1), .int (zI node), .int (zI kind)]) (QEi D vwCl (adL ad) sz (fun (r : Int32) (_ : Unit) => r = zI (f_Tree_mayHave T node kind)) (fun (_ : Unit) => (wE cI cZ cQ ad T M Cc J Rr Ls))) 0 0 (AE (adL ad) sz) := by
  refine E_start (by decide) wE_L (Nat.le_of_ble_eq_true rfl) ?_
  intro p e s m args below meth c C hr hlk hnm hsz hK H locs hE ls hl
  have C : CallFix p m c b_Tree_mayHave 3 s args Wl R_Tree := C
  have hl : lv_has ls 3 [(0, .ref (ad 1)), (1, .int (zI node)), (2, .int (zI kind))] := hl
  have htsz : 1 ≤ g_tsz T ∧ g_tsz T ≤ 24 := hT.2.2.2.2.2.2.2.2.1
  refine lv_aload_n C.1 C.2.1 d_Tree_mayHave_0 rfl (lv_at hl 0 rfl) ?_
  refine lv_iload_n C.1 C.2.1 d_Tree_mayHave_1 rfl (lv_at hl 1 rfl) ?_
  refine E_calli hsz hE (va_runV (As := [.int (zI node)]) (rest := []) C (c_Tree_isNode l D cI cZ cQ ad H.size T M Cc J Rr Ls node hT (show -2147483648 ≤ node ∧ node < 2147483648 by omega)) (E_cwV C.2.2.2.2 lw_good cw_Tree_45 rfl rfl hd_Tree_isNode ⟨Nat.le_of_ble_eq_true rfl, Nat.le_of_ble_eq_true rfl⟩) (E_preV hK hE (q := (R_Tree, F_Tree, 9)) (ci := 4) (q0 := 1) rfl rfl) rfl rfl hl.1 rfl (lv_room (Nat.le_of_ble_eq_true rfl)) d_Tree_mayHave_2 ⟨Nat.zero_le _, Nat.zero_le _⟩) (fun r u H locs hw hE => ?_)
  subst hw
  have hb_1 := f_Tree_isNode_rg T node
  refine zx_if_ne (tgt := 10) C.1 C.2.1 d_Tree_mayHave_5 (by decide) (by omega) (fun c_2 => ?_) (fun c_2 => ?_)
  · have hn_3 := isNode_t c_2
    refine lv_aload_n C.1 C.2.1 d_Tree_mayHave_10 rfl (lv_at hl 0 rfl) ?_
    refine gf_Tree_31 C hK hE d_Tree_mayHave_11 ?_
    refine lv_iload_n C.1 C.2.1 d_Tree_mayHave_14 rfl (lv_at hl 1 rfl) ?_
    refine al_rnd (x := ((g_rnd T) node)) C hK hE (by omega) rfl d_Tree_mayHave_15 ?_
    have hb_4 : 0 ≤ (g_rnd T) node ∧ (g_rnd T) node ≤ 3 := hT.2.2.2.2.2.2.1 node
    refine zx_if_ne (tgt := 26) C.1 C.2.1 d_Tree_mayHave_16 (by decide) (by omega) (fun c_5 => ?_) (fun c_5 => ?_)
    · refine lv_iload_n C.1 C.2.1 d_Tree_mayHave_26 rfl (lv_at hl 2 rfl) ?_
      refine zx_iconst C.1 C.2.1 d_Tree_mayHave_27 ?_
      refine zx_iconst C.1 C.2.1 d_Tree_mayHave_28 ?_
      refine lv_aload_n C.1 C.2.1 d_Tree_mayHave_29 rfl (lv_at hl 0 rfl) ?_
      refine gf_Tree_31 C hK hE d_Tree_mayHave_30 ?_
      refine lv_iload_n C.1 C.2.1 d_Tree_mayHave_33 rfl (lv_at hl 1 rfl) ?_
      refine al_rnd (x := ((g_rnd T) node)) C hK hE (by omega) rfl d_Tree_mayHave_34 ?_
      have hb_6 : 0 ≤ (g_rnd T) node ∧ (g_rnd T) node ≤ 3 := hT.2.2.2.2.2.2.1 node
      refine zx_iadd C.1 C.2.1 d_Tree_mayHave_35 ?_
      refine zx_iconst C.1 C.2.1 d_Tree_mayHave_36 ?_
      refine zx_isub C.1 C.2.1 d_Tree_mayHave_37 ?_
      refine E_calli hsz hE (va_runSN (As := [.int (zI kind), .int (zI 4), .int (zI ((4 + ((g_rnd T) node)) - 1))]) (rest := []) C (c_Engine_isWithin l D cI cZ cQ H.size (wE cI cZ cQ ad T M Cc J Rr Ls) (adL ad) wE_L kind 4 ((4 + ((g_rnd T) node)) - 1) (show -2147483648 ≤ kind ∧ kind < 2147483648 by omega) (show -2147483648 ≤ 4 ∧ 4 < 2147483648 by omega) (show -2147483648 ≤ ((4 + ((g_rnd T) node)) - 1) ∧ ((4 + ((g_rnd T) node)) - 1) < 2147483648 by omega)) (E_cwN C.2.2.2.2 lw_good hK.2.1 cn_Engine_isWithin rfl rfl hd_Engine_isWithin ⟨Nat.le_of_ble_eq_true rfl, Nat.le_of_ble_eq_true rfl⟩) (E_preS hK hE) rfl rfl hl.1 rfl (lv_room (Nat.le_of_ble_eq_true rfl)) d_Tree_mayHave_38 ⟨Nat.zero_le _, Nat.zero_le _⟩) (fun r u H locs hw hE => ?_)
      subst hw
      have hb_7 := f_Engine_isWithin_rg kind 4 ((4 + ((g_rnd T) node)) - 1)
      rw [show f_Tree_mayHave T node kind = (f_Engine_isWithin kind 4 ((4 + ((g_rnd T) node)) - 1)) from by simp only [f_Tree_mayHave, if_neg c_2, if_neg c_5]]
      exact E_zret C hr hlk () (by omega) hE rfl d_Tree_mayHave_41
    · refine lv_iload_n C.1 C.2.1 d_Tree_mayHave_19 rfl (lv_at hl 2 rfl) ?_
      refine zx_iconst C.1 C.2.1 d_Tree_mayHave_20 ?_
      refine zx_iconst C.1 C.2.1 d_Tree_mayHave_21 ?_
      refine E_calli hsz hE (va_runSN (As := [.int (zI kind), .int (zI 0), .int (zI 3)]) (rest := []) C (c_Engine_isWithin l D cI cZ cQ H.size (wE cI cZ cQ ad T M Cc J Rr Ls) (adL ad) wE_L kind 0 3 (show -2147483648 ≤ kind ∧ kind < 2147483648 by omega) (show -2147483648 ≤ 0 ∧ 0 < 2147483648 by omega) (show -2147483648 ≤ 3 ∧ 3 < 2147483648 by omega)) (E_cwN C.2.2.2.2 lw_good hK.2.1 cn_Engine_isWithin rfl rfl hd_Engine_isWithin ⟨Nat.le_of_ble_eq_true rfl, Nat.le_of_ble_eq_true rfl⟩) (E_preS hK hE) rfl rfl hl.1 rfl (lv_room (Nat.le_of_ble_eq_true rfl)) d_Tree_mayHave_22 ⟨Nat.zero_le _, Nat.zero_le _⟩) (fun r u H locs hw hE => ?_)
      subst hw
      have hb_8 := f_Engine_isWithin_rg kind 0 3
      rw [show f_Tree_mayHave T node kind = (f_Engine_isWithin kind 0 3) from by simp only [f_Tree_mayHave, if_neg c_2, if_pos c_5]]
      exact E_zret C hr hlk () (by omega) hE rfl d_Tree_mayHave_25
  · refine zx_iconst C.1 C.2.1 d_Tree_mayHave_8 ?_
    rw [show f_Tree_mayHave T node kind = 0 from by simp only [f_Tree_mayHave, if_pos c_2]]
    exact E_zret C hr hlk () (by omega) hE rfl d_Tree_mayHave_9
theorem f_Tree_mayHave_rg (T : TSt) (node : Int) (kind : Int) : f_Tree_mayHave T node kind = 0 ∨ f_Tree_mayHave T node kind = 1 := by
  unfold f_Tree_mayHave
  repeat' (first | split | exact Or.inl rfl | exact Or.inr rfl | exact f_Engine_isWithin_rg _ _ _ | exact f_Choice_suits_rg _ _ _ | exact f_Tree_isFull_rg _ | exact f_Tree_isNode_rg _ _ | exact f_Tree_isContainer_rg _ _)

theorem isContainer_t {T : TSt} {node : Int} (h : ¬ f_Tree_isContainer T node = 0) : 0 ≤ node ∧ node < g_tsz T ∧ g_rnd T node = 0 := by
  unfold f_Tree_isContainer at h
  split at h
  · omega
  · rename_i h1
    have := isNode_t h1
    split at h <;> omega
theorem mayHave_t {T : TSt} {node kind : Int} (h : ¬ f_Tree_mayHave T node kind = 0) : 0 ≤ node ∧ node < g_tsz T ∧ (g_rnd T node = 0 → 0 ≤ kind ∧ kind ≤ 3) ∧ (¬ g_rnd T node = 0 → 4 ≤ kind ∧ kind ≤ 3 + g_rnd T node) := by
  unfold f_Tree_mayHave at h
  split at h
  · omega
  · rename_i h1
    have := isNode_t h1
    split at h
    · rename_i h2
      have := isWithin_t h
      omega
    · rename_i h2
      have := isWithin_t h
      omega
def f_Tree_addNode (T : TSt) (parent : Int) (order : Int) : Int × TSt := match T with | (par, dep, ord, tag, dis, shr, rnd, dln, tsz) => (tsz, ((iup par tsz parent), (iup dep tsz ((dep parent) + 1)), (iup ord tsz order), tag, dis, shr, rnd, dln, (tsz + 1)))
set_option maxHeartbeats 4000000 in
set_option maxRecDepth 100000 in
theorem c_Tree_addNode (l : Launch) (D : va_G) (cI cZ cQ : ClassId) (ad : Nat → Nat) (sz : Nat) (T : TSt) (M : MSt) (Cc : CSt) (J : JSt) (Rr : RSt) (Ls : LSt) (parent : Int) (order : Int) (h_parent : 0 ≤ parent ∧ parent < 24) (hsize : 0 ≤ g_tsz T ∧ g_tsz T < 24) : Met l y_Tree_addNode (Cond.code y_Tree_addNode b_Tree_addNode 4 (some .int) :: Wl) { frames := 0, cells := 0, slots := 0, locals := 0 } (PE D vwCl (tyE cI cZ cQ) (wE cI cZ cQ ad T M Cc J Rr Ls) sz [.ref (ad 1), .int (zI parent), .int (zI order)]) (QEi D vwCl (adL ad) sz (fun (r : Int32) (_ : Unit) => r = zI ((f_Tree_addNode T parent order).1)) (fun (_ : Unit) => (wE cI cZ cQ ad ((f_Tree_addNode T parent order).2) M Cc J Rr Ls))) 0 0 (AE (adL ad) sz) := by
  obtain ⟨par, dep, ord, tag, dis, shr, rnd, dln, tsz⟩ := T
  simp only [g_par, g_dep, g_ord, g_tag, g_dis, g_shr, g_rnd, g_dln, g_tsz] at h_parent hsize
  refine E_start (by decide) wE_L (Nat.le_of_ble_eq_true rfl) ?_
  intro p e s m args below meth c C hr hlk hnm hsz hK H locs hE ls hl
  have C : CallFix p m c b_Tree_addNode 4 s args Wl R_Tree := C
  have hl : lv_has ls 4 [(0, .ref (ad 1)), (1, .int (zI parent)), (2, .int (zI order))] := hl
  refine lv_aload_n C.1 C.2.1 d_Tree_addNode_0 rfl (lv_at hl 0 rfl) ?_
  refine gf_Tree_37 (x := tsz) C hK hE rfl d_Tree_addNode_1 ?_
  refine lv_istore_n (lv' := [(3, .int (zI tsz)), (0, .ref (ad 1)), (1, .int (zI parent)), (2, .int (zI order))]) C.1 C.2.1 d_Tree_addNode_4 rfl hl (by decide) rfl (fun ls hl => ?_)
  refine lv_aload_n C.1 C.2.1 d_Tree_addNode_5 rfl (lv_at hl 1 rfl) ?_
  refine gf_Tree_9 C hK hE d_Tree_addNode_6 ?_
  refine lv_iload_n C.1 C.2.1 d_Tree_addNode_9 rfl (lv_at hl 0 rfl) ?_
  refine lv_iload_n C.1 C.2.1 d_Tree_addNode_10 rfl (lv_at hl 2 rfl) ?_
  refine as_par C hK hE (by omega) d_Tree_addNode_11 (fun H locs hE => ?_)
  have hE : EW D vwCl (AE (adL ad) sz) (wE cI cZ cQ ad ((iup par tsz parent), dep, ord, tag, dis, shr, rnd, dln, tsz) M Cc J Rr Ls) s.heap H locs := hE
  refine lv_aload_n C.1 C.2.1 d_Tree_addNode_12 rfl (lv_at hl 1 rfl) ?_
  refine gf_Tree_15 C hK hE d_Tree_addNode_13 ?_
  refine lv_iload_n C.1 C.2.1 d_Tree_addNode_16 rfl (lv_at hl 0 rfl) ?_
  refine lv_aload_n C.1 C.2.1 d_Tree_addNode_17 rfl (lv_at hl 1 rfl) ?_
  refine gf_Tree_15 C hK hE d_Tree_addNode_18 ?_
  refine lv_iload_n C.1 C.2.1 d_Tree_addNode_21 rfl (lv_at hl 2 rfl) ?_
  refine al_dep (x := (dep parent)) C hK hE (by omega) rfl d_Tree_addNode_22 ?_
  refine zx_iconst C.1 C.2.1 d_Tree_addNode_23 ?_
  refine zx_iadd C.1 C.2.1 d_Tree_addNode_24 ?_
  refine as_dep C hK hE (by omega) d_Tree_addNode_25 (fun H locs hE => ?_)
  have hE : EW D vwCl (AE (adL ad) sz) (wE cI cZ cQ ad ((iup par tsz parent), (iup dep tsz ((dep parent) + 1)), ord, tag, dis, shr, rnd, dln, tsz) M Cc J Rr Ls) s.heap H locs := hE
  refine lv_aload_n C.1 C.2.1 d_Tree_addNode_26 rfl (lv_at hl 1 rfl) ?_
  refine gf_Tree_18 C hK hE d_Tree_addNode_27 ?_
  refine lv_iload_n C.1 C.2.1 d_Tree_addNode_30 rfl (lv_at hl 0 rfl) ?_
  refine lv_iload_n C.1 C.2.1 d_Tree_addNode_31 rfl (lv_at hl 3 rfl) ?_
  refine as_ord C hK hE (by omega) d_Tree_addNode_32 (fun H locs hE => ?_)
  have hE : EW D vwCl (AE (adL ad) sz) (wE cI cZ cQ ad ((iup par tsz parent), (iup dep tsz ((dep parent) + 1)), (iup ord tsz order), tag, dis, shr, rnd, dln, tsz) M Cc J Rr Ls) s.heap H locs := hE
  refine lv_aload_n C.1 C.2.1 d_Tree_addNode_33 rfl (lv_at hl 1 rfl) ?_
  refine lv_dup C.1 C.2.1 d_Tree_addNode_34 rfl ?_
  refine gf_Tree_37 (x := tsz) C hK hE rfl d_Tree_addNode_35 ?_
  refine zx_iconst C.1 C.2.1 d_Tree_addNode_38 ?_
  refine zx_iadd C.1 C.2.1 d_Tree_addNode_39 ?_
  refine pf_Tree_37 C hK hE d_Tree_addNode_40 (fun H locs hE => ?_)
  have hE : EW D vwCl (AE (adL ad) sz) (wE cI cZ cQ ad ((iup par tsz parent), (iup dep tsz ((dep parent) + 1)), (iup ord tsz order), tag, dis, shr, rnd, dln, (tsz + 1)) M Cc J Rr Ls) s.heap H locs := hE
  refine lv_iload_n C.1 C.2.1 d_Tree_addNode_43 rfl (lv_at hl 0 rfl) ?_
  rw [show f_Tree_addNode (par, dep, ord, tag, dis, shr, rnd, dln, tsz) parent order = (tsz, ((iup par tsz parent), (iup dep tsz ((dep parent) + 1)), (iup ord tsz order), tag, dis, shr, rnd, dln, (tsz + 1))) from rfl]
  exact E_iret C hr hlk () hE rfl d_Tree_addNode_44

def f_Tree_addContainer (T : TSt) (parent : Int) (order : Int) (isShared : Int) : Int × TSt := (((f_Tree_addNode T parent order).1), ((g_par ((f_Tree_addNode T parent order).2)), (g_dep ((f_Tree_addNode T parent order).2)), (g_ord ((f_Tree_addNode T parent order).2)), (g_tag ((f_Tree_addNode T parent order).2)), (g_dis ((f_Tree_addNode T parent order).2)), (iup (g_shr ((f_Tree_addNode T parent order).2)) ((f_Tree_addNode T parent order).1) isShared), (g_rnd ((f_Tree_addNode T parent order).2)), (g_dln ((f_Tree_addNode T parent order).2)), (g_tsz ((f_Tree_addNode T parent order).2))))
set_option maxHeartbeats 4000000 in
set_option maxRecDepth 100000 in
theorem c_Tree_addContainer (l : Launch) (D : va_G) (cI cZ cQ : ClassId) (ad : Nat → Nat) (sz : Nat) (T : TSt) (M : MSt) (Cc : CSt) (J : JSt) (Rr : RSt) (Ls : LSt) (parent : Int) (order : Int) (isShared : Int) (hb_isShared : isShared = 0 ∨ isShared = 1) (h_parent : 0 ≤ parent ∧ parent < 24) (hsize : 0 ≤ g_tsz T ∧ g_tsz T < 24) : Met l y_Tree_addContainer (Cond.code y_Tree_addContainer b_Tree_addContainer 5 (some .int) :: Wl) { frames := 1, cells := 0, slots := 0, locals := 23 } (PE D vwCl (tyE cI cZ cQ) (wE cI cZ cQ ad T M Cc J Rr Ls) sz [.ref (ad 1), .int (zI parent), .int (zI order), .int (zI isShared)]) (QEi D vwCl (adL ad) sz (fun (r : Int32) (_ : Unit) => r = zI ((f_Tree_addContainer T parent order isShared).1)) (fun (_ : Unit) => (wE cI cZ cQ ad ((f_Tree_addContainer T parent order isShared).2) M Cc J Rr Ls))) 0 0 (AE (adL ad) sz) := by
  refine E_start (by decide) wE_L (Nat.le_of_ble_eq_true rfl) ?_
  intro p e s m args below meth c C hr hlk hnm hsz hK H locs hE ls hl
  have C : CallFix p m c b_Tree_addContainer 5 s args Wl R_Tree := C
  have hl : lv_has ls 5 [(0, .ref (ad 1)), (1, .int (zI parent)), (2, .int (zI order)), (3, .int (zI isShared))] := hl
  refine lv_aload_n C.1 C.2.1 d_Tree_addContainer_0 rfl (lv_at hl 0 rfl) ?_
  refine lv_iload_n C.1 C.2.1 d_Tree_addContainer_1 rfl (lv_at hl 1 rfl) ?_
  refine lv_iload_n C.1 C.2.1 d_Tree_addContainer_2 rfl (lv_at hl 2 rfl) ?_
  refine E_calli hsz hE (va_runV (As := [.int (zI parent), .int (zI order)]) (rest := []) C (c_Tree_addNode l D cI cZ cQ ad H.size T M Cc J Rr Ls parent order (show 0 ≤ parent ∧ parent < 24 by omega) (show 0 ≤ (g_tsz T) ∧ (g_tsz T) < 24 by omega)) (E_cwV C.2.2.2.2 lw_good cw_Tree_49 rfl rfl hd_Tree_addNode ⟨Nat.le_of_ble_eq_true rfl, Nat.le_of_ble_eq_true rfl⟩) (E_preV hK hE (q := (R_Tree, F_Tree, 9)) (ci := 4) (q0 := 1) rfl rfl) rfl rfl hl.1 rfl (lv_room (Nat.le_of_ble_eq_true rfl)) d_Tree_addContainer_3 ⟨Nat.zero_le _, Nat.zero_le _⟩) (fun r u H locs hw hE => ?_)
  subst hw
  have hb_1 : (f_Tree_addNode T parent order).1 = g_tsz T := rfl
  refine lv_istore (lv' := [(4, .int (zI ((f_Tree_addNode T parent order).1))), (0, .ref (ad 1)), (1, .int (zI parent)), (2, .int (zI order)), (3, .int (zI isShared))]) C.1 C.2.1 d_Tree_addContainer_6 hl (by decide) rfl (fun ls hl => ?_)
  refine lv_aload_n C.1 C.2.1 d_Tree_addContainer_8 rfl (lv_at hl 1 rfl) ?_
  refine gf_Tree_28 C hK hE d_Tree_addContainer_9 ?_
  refine lv_iload C.1 C.2.1 d_Tree_addContainer_12 (lv_at hl 0 rfl) ?_
  refine lv_iload_n C.1 C.2.1 d_Tree_addContainer_14 rfl (lv_at hl 4 rfl) ?_
  refine as_shr C hK hE (by omega) (by omega) d_Tree_addContainer_15 (fun H locs hE => ?_)
  have hE : EW D vwCl (AE (adL ad) sz) (wE cI cZ cQ ad ((g_par ((f_Tree_addNode T parent order).2)), (g_dep ((f_Tree_addNode T parent order).2)), (g_ord ((f_Tree_addNode T parent order).2)), (g_tag ((f_Tree_addNode T parent order).2)), (g_dis ((f_Tree_addNode T parent order).2)), (iup (g_shr ((f_Tree_addNode T parent order).2)) ((f_Tree_addNode T parent order).1) isShared), (g_rnd ((f_Tree_addNode T parent order).2)), (g_dln ((f_Tree_addNode T parent order).2)), (g_tsz ((f_Tree_addNode T parent order).2))) M Cc J Rr Ls) s.heap H locs := hE
  refine lv_iload C.1 C.2.1 d_Tree_addContainer_16 (lv_at hl 0 rfl) ?_
  rw [show f_Tree_addContainer T parent order isShared = (((f_Tree_addNode T parent order).1), ((g_par ((f_Tree_addNode T parent order).2)), (g_dep ((f_Tree_addNode T parent order).2)), (g_ord ((f_Tree_addNode T parent order).2)), (g_tag ((f_Tree_addNode T parent order).2)), (g_dis ((f_Tree_addNode T parent order).2)), (iup (g_shr ((f_Tree_addNode T parent order).2)) ((f_Tree_addNode T parent order).1) isShared), (g_rnd ((f_Tree_addNode T parent order).2)), (g_dln ((f_Tree_addNode T parent order).2)), (g_tsz ((f_Tree_addNode T parent order).2)))) from rfl]
  exact E_iret C hr hlk () hE rfl d_Tree_addContainer_18

def f_Tree_addTest (T : TSt) (parent : Int) (order : Int) (roundCount : Int) (deadline : Int) : Int × TSt := (((f_Tree_addNode T parent order).1), ((g_par ((f_Tree_addNode T parent order).2)), (g_dep ((f_Tree_addNode T parent order).2)), (g_ord ((f_Tree_addNode T parent order).2)), (g_tag ((f_Tree_addNode T parent order).2)), (g_dis ((f_Tree_addNode T parent order).2)), (g_shr ((f_Tree_addNode T parent order).2)), (iup (g_rnd ((f_Tree_addNode T parent order).2)) ((f_Tree_addNode T parent order).1) roundCount), (iup (g_dln ((f_Tree_addNode T parent order).2)) ((f_Tree_addNode T parent order).1) deadline), (g_tsz ((f_Tree_addNode T parent order).2))))
set_option maxHeartbeats 4000000 in
set_option maxRecDepth 100000 in
theorem c_Tree_addTest (l : Launch) (D : va_G) (cI cZ cQ : ClassId) (ad : Nat → Nat) (sz : Nat) (T : TSt) (M : MSt) (Cc : CSt) (J : JSt) (Rr : RSt) (Ls : LSt) (parent : Int) (order : Int) (roundCount : Int) (deadline : Int) (h_parent : 0 ≤ parent ∧ parent < 24) (hsize : 0 ≤ g_tsz T ∧ g_tsz T < 24) : Met l y_Tree_addTest (Cond.code y_Tree_addTest b_Tree_addTest 6 (some .int) :: Wl) { frames := 1, cells := 0, slots := 0, locals := 23 } (PE D vwCl (tyE cI cZ cQ) (wE cI cZ cQ ad T M Cc J Rr Ls) sz [.ref (ad 1), .int (zI parent), .int (zI order), .int (zI roundCount), .int (zI deadline)]) (QEi D vwCl (adL ad) sz (fun (r : Int32) (_ : Unit) => r = zI ((f_Tree_addTest T parent order roundCount deadline).1)) (fun (_ : Unit) => (wE cI cZ cQ ad ((f_Tree_addTest T parent order roundCount deadline).2) M Cc J Rr Ls))) 0 0 (AE (adL ad) sz) := by
  refine E_start (by decide) wE_L (Nat.le_of_ble_eq_true rfl) ?_
  intro p e s m args below meth c C hr hlk hnm hsz hK H locs hE ls hl
  have C : CallFix p m c b_Tree_addTest 6 s args Wl R_Tree := C
  have hl : lv_has ls 6 [(0, .ref (ad 1)), (1, .int (zI parent)), (2, .int (zI order)), (3, .int (zI roundCount)), (4, .int (zI deadline))] := hl
  refine lv_aload_n C.1 C.2.1 d_Tree_addTest_0 rfl (lv_at hl 0 rfl) ?_
  refine lv_iload_n C.1 C.2.1 d_Tree_addTest_1 rfl (lv_at hl 1 rfl) ?_
  refine lv_iload_n C.1 C.2.1 d_Tree_addTest_2 rfl (lv_at hl 2 rfl) ?_
  refine E_calli hsz hE (va_runV (As := [.int (zI parent), .int (zI order)]) (rest := []) C (c_Tree_addNode l D cI cZ cQ ad H.size T M Cc J Rr Ls parent order (show 0 ≤ parent ∧ parent < 24 by omega) (show 0 ≤ (g_tsz T) ∧ (g_tsz T) < 24 by omega)) (E_cwV C.2.2.2.2 lw_good cw_Tree_49 rfl rfl hd_Tree_addNode ⟨Nat.le_of_ble_eq_true rfl, Nat.le_of_ble_eq_true rfl⟩) (E_preV hK hE (q := (R_Tree, F_Tree, 9)) (ci := 4) (q0 := 1) rfl rfl) rfl rfl hl.1 rfl (lv_room (Nat.le_of_ble_eq_true rfl)) d_Tree_addTest_3 ⟨Nat.zero_le _, Nat.zero_le _⟩) (fun r u H locs hw hE => ?_)
  subst hw
  have hb_1 : (f_Tree_addNode T parent order).1 = g_tsz T := rfl
  refine lv_istore (lv' := [(5, .int (zI ((f_Tree_addNode T parent order).1))), (0, .ref (ad 1)), (1, .int (zI parent)), (2, .int (zI order)), (3, .int (zI roundCount)), (4, .int (zI deadline))]) C.1 C.2.1 d_Tree_addTest_6 hl (by decide) rfl (fun ls hl => ?_)
  refine lv_aload_n C.1 C.2.1 d_Tree_addTest_8 rfl (lv_at hl 1 rfl) ?_
  refine gf_Tree_31 C hK hE d_Tree_addTest_9 ?_
  refine lv_iload C.1 C.2.1 d_Tree_addTest_12 (lv_at hl 0 rfl) ?_
  refine lv_iload_n C.1 C.2.1 d_Tree_addTest_14 rfl (lv_at hl 4 rfl) ?_
  refine as_rnd C hK hE (by omega) d_Tree_addTest_15 (fun H locs hE => ?_)
  have hE : EW D vwCl (AE (adL ad) sz) (wE cI cZ cQ ad ((g_par ((f_Tree_addNode T parent order).2)), (g_dep ((f_Tree_addNode T parent order).2)), (g_ord ((f_Tree_addNode T parent order).2)), (g_tag ((f_Tree_addNode T parent order).2)), (g_dis ((f_Tree_addNode T parent order).2)), (g_shr ((f_Tree_addNode T parent order).2)), (iup (g_rnd ((f_Tree_addNode T parent order).2)) ((f_Tree_addNode T parent order).1) roundCount), (g_dln ((f_Tree_addNode T parent order).2)), (g_tsz ((f_Tree_addNode T parent order).2))) M Cc J Rr Ls) s.heap H locs := hE
  refine lv_aload_n C.1 C.2.1 d_Tree_addTest_16 rfl (lv_at hl 1 rfl) ?_
  refine gf_Tree_34 C hK hE d_Tree_addTest_17 ?_
  refine lv_iload C.1 C.2.1 d_Tree_addTest_20 (lv_at hl 0 rfl) ?_
  refine lv_iload C.1 C.2.1 d_Tree_addTest_22 (lv_at hl 5 rfl) ?_
  refine as_dln C hK hE (by omega) d_Tree_addTest_24 (fun H locs hE => ?_)
  have hE : EW D vwCl (AE (adL ad) sz) (wE cI cZ cQ ad ((g_par ((f_Tree_addNode T parent order).2)), (g_dep ((f_Tree_addNode T parent order).2)), (g_ord ((f_Tree_addNode T parent order).2)), (g_tag ((f_Tree_addNode T parent order).2)), (g_dis ((f_Tree_addNode T parent order).2)), (g_shr ((f_Tree_addNode T parent order).2)), (iup (g_rnd ((f_Tree_addNode T parent order).2)) ((f_Tree_addNode T parent order).1) roundCount), (iup (g_dln ((f_Tree_addNode T parent order).2)) ((f_Tree_addNode T parent order).1) deadline), (g_tsz ((f_Tree_addNode T parent order).2))) M Cc J Rr Ls) s.heap H locs := hE
  refine lv_iload C.1 C.2.1 d_Tree_addTest_25 (lv_at hl 0 rfl) ?_
  rw [show f_Tree_addTest T parent order roundCount deadline = (((f_Tree_addNode T parent order).1), ((g_par ((f_Tree_addNode T parent order).2)), (g_dep ((f_Tree_addNode T parent order).2)), (g_ord ((f_Tree_addNode T parent order).2)), (g_tag ((f_Tree_addNode T parent order).2)), (g_dis ((f_Tree_addNode T parent order).2)), (g_shr ((f_Tree_addNode T parent order).2)), (iup (g_rnd ((f_Tree_addNode T parent order).2)) ((f_Tree_addNode T parent order).1) roundCount), (iup (g_dln ((f_Tree_addNode T parent order).2)) ((f_Tree_addNode T parent order).1) deadline), (g_tsz ((f_Tree_addNode T parent order).2)))) from rfl]
  exact E_iret C hr hlk () hE rfl d_Tree_addTest_27

def f_Tree_setMarks (T : TSt) (node : Int) (newTags : Int) (isDisabled : Int) : TSt := match T with | (par, dep, ord, tag, dis, shr, rnd, dln, tsz) => (par, dep, ord, (iup tag node newTags), (iup dis node isDisabled), shr, rnd, dln, tsz)
set_option maxHeartbeats 4000000 in
set_option maxRecDepth 100000 in
theorem c_Tree_setMarks (l : Launch) (D : va_G) (cI cZ cQ : ClassId) (ad : Nat → Nat) (sz : Nat) (T : TSt) (M : MSt) (Cc : CSt) (J : JSt) (Rr : RSt) (Ls : LSt) (node : Int) (newTags : Int) (isDisabled : Int) (hb_isDisabled : isDisabled = 0 ∨ isDisabled = 1) (h_node : 0 ≤ node ∧ node < 24) : Met l y_Tree_setMarks (Cond.code y_Tree_setMarks b_Tree_setMarks 4 none :: Wl) { frames := 0, cells := 0, slots := 0, locals := 0 } (PE D vwCl (tyE cI cZ cQ) (wE cI cZ cQ ad T M Cc J Rr Ls) sz [.ref (ad 1), .int (zI node), .int (zI newTags), .int (zI isDisabled)]) (QEv D vwCl (adL ad) sz (fun (_ : Unit) => True) (fun (_ : Unit) => (wE cI cZ cQ ad (f_Tree_setMarks T node newTags isDisabled) M Cc J Rr Ls))) 0 0 (AE (adL ad) sz) := by
  obtain ⟨par, dep, ord, tag, dis, shr, rnd, dln, tsz⟩ := T
  refine E_start (by decide) wE_L (Nat.le_of_ble_eq_true rfl) ?_
  intro p e s m args below meth c C hr hlk hnm hsz hK H locs hE ls hl
  have C : CallFix p m c b_Tree_setMarks 4 s args Wl R_Tree := C
  have hl : lv_has ls 4 [(0, .ref (ad 1)), (1, .int (zI node)), (2, .int (zI newTags)), (3, .int (zI isDisabled))] := hl
  refine lv_aload_n C.1 C.2.1 d_Tree_setMarks_0 rfl (lv_at hl 0 rfl) ?_
  refine gf_Tree_21 C hK hE d_Tree_setMarks_1 ?_
  refine lv_iload_n C.1 C.2.1 d_Tree_setMarks_4 rfl (lv_at hl 1 rfl) ?_
  refine lv_iload_n C.1 C.2.1 d_Tree_setMarks_5 rfl (lv_at hl 2 rfl) ?_
  refine as_tag C hK hE (by omega) d_Tree_setMarks_6 (fun H locs hE => ?_)
  have hE : EW D vwCl (AE (adL ad) sz) (wE cI cZ cQ ad (par, dep, ord, (iup tag node newTags), dis, shr, rnd, dln, tsz) M Cc J Rr Ls) s.heap H locs := hE
  refine lv_aload_n C.1 C.2.1 d_Tree_setMarks_7 rfl (lv_at hl 0 rfl) ?_
  refine gf_Tree_24 C hK hE d_Tree_setMarks_8 ?_
  refine lv_iload_n C.1 C.2.1 d_Tree_setMarks_11 rfl (lv_at hl 1 rfl) ?_
  refine lv_iload_n C.1 C.2.1 d_Tree_setMarks_12 rfl (lv_at hl 3 rfl) ?_
  refine as_dis C hK hE (by omega) (by omega) d_Tree_setMarks_13 (fun H locs hE => ?_)
  have hE : EW D vwCl (AE (adL ad) sz) (wE cI cZ cQ ad (par, dep, ord, (iup tag node newTags), (iup dis node isDisabled), shr, rnd, dln, tsz) M Cc J Rr Ls) s.heap H locs := hE
  rw [show f_Tree_setMarks (par, dep, ord, tag, dis, shr, rnd, dln, tsz) node newTags isDisabled = (par, dep, ord, (iup tag node newTags), (iup dis node isDisabled), shr, rnd, dln, tsz) from rfl]
  exact E_vret C hr hlk () hE trivial d_Tree_setMarks_14

set_option maxHeartbeats 4000000 in
set_option maxRecDepth 100000 in
theorem c_Tree_rankOf (l : Launch) (D : va_G) (cI cZ cQ : ClassId) (ad : Nat → Nat) (sz : Nat) (T : TSt) (M : MSt) (Cc : CSt) (J : JSt) (Rr : RSt) (Ls : LSt) (node : Int) (h_node : 0 ≤ node ∧ node < 24) : Met l y_Tree_rankOf (Cond.code y_Tree_rankOf b_Tree_rankOf 2 (some .int) :: Wl) { frames := 0, cells := 0, slots := 0, locals := 0 } (PE D vwCl (tyE cI cZ cQ) (wE cI cZ cQ ad T M Cc J Rr Ls) sz [.ref (ad 1), .int (zI node)]) (QEi D vwCl (adL ad) sz (fun (r : Int32) (_ : Unit) => r = zI ((((g_ord T) node) * 24) + node)) (fun (_ : Unit) => (wE cI cZ cQ ad T M Cc J Rr Ls))) 0 0 (AE (adL ad) sz) := by
  refine E_start (by decide) wE_L (Nat.le_of_ble_eq_true rfl) ?_
  intro p e s m args below meth c C hr hlk hnm hsz hK H locs hE ls hl
  have C : CallFix p m c b_Tree_rankOf 2 s args Wl R_Tree := C
  have hl : lv_has ls 2 [(0, .ref (ad 1)), (1, .int (zI node))] := hl
  refine lv_aload_n C.1 C.2.1 d_Tree_rankOf_0 rfl (lv_at hl 0 rfl) ?_
  refine gf_Tree_18 C hK hE d_Tree_rankOf_1 ?_
  refine lv_iload_n C.1 C.2.1 d_Tree_rankOf_4 rfl (lv_at hl 1 rfl) ?_
  refine al_ord (x := ((g_ord T) node)) C hK hE (by omega) rfl d_Tree_rankOf_5 ?_
  refine zx_bipush C.1 C.2.1 d_Tree_rankOf_6 (by decide) ?_
  refine zx_imul C.1 C.2.1 d_Tree_rankOf_8 ?_
  refine lv_iload_n C.1 C.2.1 d_Tree_rankOf_9 rfl (lv_at hl 1 rfl) ?_
  refine zx_iadd C.1 C.2.1 d_Tree_rankOf_10 ?_
  exact E_iret C hr hlk () hE rfl d_Tree_rankOf_11
end
section
def f_Methods_give (M : MSt) (node : Int) (kind : Int) (result : Int) (code : Int) (length : Int) : MSt := match M with | (thr, res, cod, len) => ((iup thr ((node * 7) + kind) 1), (iup res ((node * 7) + kind) result), (iup cod ((node * 7) + kind) code), (iup len ((node * 7) + kind) length))
set_option maxHeartbeats 4000000 in
set_option maxRecDepth 100000 in
theorem c_Methods_give (l : Launch) (D : va_G) (cI cZ cQ : ClassId) (ad : Nat → Nat) (sz : Nat) (T : TSt) (M : MSt) (Cc : CSt) (J : JSt) (Rr : RSt) (Ls : LSt) (node : Int) (kind : Int) (result : Int) (code : Int) (length : Int) (h_node : 0 ≤ node ∧ node < 24) (h_kind : 0 ≤ kind ∧ kind < 7) : Met l y_Methods_give (Cond.code y_Methods_give b_Methods_give 7 none :: Wl) { frames := 1, cells := 0, slots := 0, locals := 21 } (PE D vwCl (tyE cI cZ cQ) (wE cI cZ cQ ad T M Cc J Rr Ls) sz [.ref (ad 10), .int (zI node), .int (zI kind), .int (zI result), .int (zI code), .int (zI length)]) (QEv D vwCl (adL ad) sz (fun (_ : Unit) => True) (fun (_ : Unit) => (wE cI cZ cQ ad T (f_Methods_give M node kind result code length) Cc J Rr Ls))) 0 0 (AE (adL ad) sz) := by
  obtain ⟨thr, res, cod, len⟩ := M
  refine E_start (by decide) wE_L (Nat.le_of_ble_eq_true rfl) ?_
  intro p e s m args below meth c C hr hlk hnm hsz hK H locs hE ls hl
  have C : CallFix p m c b_Methods_give 7 s args Wl R_Methods := C
  have hl : lv_has ls 7 [(0, .ref (ad 10)), (1, .int (zI node)), (2, .int (zI kind)), (3, .int (zI result)), (4, .int (zI code)), (5, .int (zI length))] := hl
  refine lv_iload_n C.1 C.2.1 d_Methods_give_0 rfl (lv_at hl 1 rfl) ?_
  refine lv_iload_n C.1 C.2.1 d_Methods_give_1 rfl (lv_at hl 2 rfl) ?_
  refine E_calli hsz hE (va_runS (As := [.int (zI node), .int (zI kind)]) (rest := []) C (c_Methods_placeOf l D cI cZ cQ H.size (wE cI cZ cQ ad T (thr, res, cod, len) Cc J Rr Ls) (adL ad) wE_L node kind ) (E_cwS C.2.2.2.2 lw_good cw_Methods_29 rfl rfl hd_Methods_placeOf ⟨Nat.le_of_ble_eq_true rfl, Nat.le_of_ble_eq_true rfl⟩) (E_preS hK hE) rfl rfl hl.1 rfl (lv_room (Nat.le_of_ble_eq_true rfl)) d_Methods_give_2 ⟨Nat.zero_le _, Nat.zero_le _⟩) (fun r u H locs hw hE => ?_)
  subst hw
  refine lv_istore (lv' := [(6, .int (zI ((node * 7) + kind))), (0, .ref (ad 10)), (1, .int (zI node)), (2, .int (zI kind)), (3, .int (zI result)), (4, .int (zI code)), (5, .int (zI length))]) C.1 C.2.1 d_Methods_give_5 hl (by decide) rfl (fun ls hl => ?_)
  refine lv_aload_n C.1 C.2.1 d_Methods_give_7 rfl (lv_at hl 1 rfl) ?_
  refine gf_Methods_9 C hK hE d_Methods_give_8 ?_
  refine lv_iload C.1 C.2.1 d_Methods_give_11 (lv_at hl 0 rfl) ?_
  refine zx_iconst C.1 C.2.1 d_Methods_give_13 ?_
  refine as_thr C hK hE (by omega) (by omega) d_Methods_give_14 (fun H locs hE => ?_)
  have hE : EW D vwCl (AE (adL ad) sz) (wE cI cZ cQ ad T ((iup thr ((node * 7) + kind) 1), res, cod, len) Cc J Rr Ls) s.heap H locs := hE
  refine lv_aload_n C.1 C.2.1 d_Methods_give_15 rfl (lv_at hl 1 rfl) ?_
  refine gf_Methods_15 C hK hE d_Methods_give_16 ?_
  refine lv_iload C.1 C.2.1 d_Methods_give_19 (lv_at hl 0 rfl) ?_
  refine lv_iload_n C.1 C.2.1 d_Methods_give_21 rfl (lv_at hl 4 rfl) ?_
  refine as_res C hK hE (by omega) d_Methods_give_22 (fun H locs hE => ?_)
  have hE : EW D vwCl (AE (adL ad) sz) (wE cI cZ cQ ad T ((iup thr ((node * 7) + kind) 1), (iup res ((node * 7) + kind) result), cod, len) Cc J Rr Ls) s.heap H locs := hE
  refine lv_aload_n C.1 C.2.1 d_Methods_give_23 rfl (lv_at hl 1 rfl) ?_
  refine gf_Methods_19 C hK hE d_Methods_give_24 ?_
  refine lv_iload C.1 C.2.1 d_Methods_give_27 (lv_at hl 0 rfl) ?_
  refine lv_iload C.1 C.2.1 d_Methods_give_29 (lv_at hl 5 rfl) ?_
  refine as_cod C hK hE (by omega) d_Methods_give_31 (fun H locs hE => ?_)
  have hE : EW D vwCl (AE (adL ad) sz) (wE cI cZ cQ ad T ((iup thr ((node * 7) + kind) 1), (iup res ((node * 7) + kind) result), (iup cod ((node * 7) + kind) code), len) Cc J Rr Ls) s.heap H locs := hE
  refine lv_aload_n C.1 C.2.1 d_Methods_give_32 rfl (lv_at hl 1 rfl) ?_
  refine gf_Methods_22 C hK hE d_Methods_give_33 ?_
  refine lv_iload C.1 C.2.1 d_Methods_give_36 (lv_at hl 0 rfl) ?_
  refine lv_iload C.1 C.2.1 d_Methods_give_38 (lv_at hl 6 rfl) ?_
  refine as_len C hK hE (by omega) d_Methods_give_40 (fun H locs hE => ?_)
  have hE : EW D vwCl (AE (adL ad) sz) (wE cI cZ cQ ad T ((iup thr ((node * 7) + kind) 1), (iup res ((node * 7) + kind) result), (iup cod ((node * 7) + kind) code), (iup len ((node * 7) + kind) length)) Cc J Rr Ls) s.heap H locs := hE
  rw [show f_Methods_give (thr, res, cod, len) node kind result code length = ((iup thr ((node * 7) + kind) 1), (iup res ((node * 7) + kind) result), (iup cod ((node * 7) + kind) code), (iup len ((node * 7) + kind) length)) from rfl]
  exact E_vret C hr hlk () hE trivial d_Methods_give_41

def f_Methods_takeAt (M : MSt) (place : Int) : MSt := match M with | (thr, res, cod, len) => ((iup thr place 0), res, cod, len)
set_option maxHeartbeats 4000000 in
set_option maxRecDepth 100000 in
theorem c_Methods_takeAt (l : Launch) (D : va_G) (cI cZ cQ : ClassId) (ad : Nat → Nat) (sz : Nat) (T : TSt) (M : MSt) (Cc : CSt) (J : JSt) (Rr : RSt) (Ls : LSt) (place : Int) (h_place : 0 ≤ place ∧ place < 168) : Met l y_Methods_takeAt (Cond.code y_Methods_takeAt b_Methods_takeAt 2 none :: Wl) { frames := 0, cells := 0, slots := 0, locals := 0 } (PE D vwCl (tyE cI cZ cQ) (wE cI cZ cQ ad T M Cc J Rr Ls) sz [.ref (ad 10), .int (zI place)]) (QEv D vwCl (adL ad) sz (fun (_ : Unit) => True) (fun (_ : Unit) => (wE cI cZ cQ ad T (f_Methods_takeAt M place) Cc J Rr Ls))) 0 0 (AE (adL ad) sz) := by
  obtain ⟨thr, res, cod, len⟩ := M
  refine E_start (by decide) wE_L (Nat.le_of_ble_eq_true rfl) ?_
  intro p e s m args below meth c C hr hlk hnm hsz hK H locs hE ls hl
  have C : CallFix p m c b_Methods_takeAt 2 s args Wl R_Methods := C
  have hl : lv_has ls 2 [(0, .ref (ad 10)), (1, .int (zI place))] := hl
  refine lv_aload_n C.1 C.2.1 d_Methods_takeAt_0 rfl (lv_at hl 0 rfl) ?_
  refine gf_Methods_9 C hK hE d_Methods_takeAt_1 ?_
  refine lv_iload_n C.1 C.2.1 d_Methods_takeAt_4 rfl (lv_at hl 1 rfl) ?_
  refine zx_iconst C.1 C.2.1 d_Methods_takeAt_5 ?_
  refine as_thr C hK hE (by omega) (by omega) d_Methods_takeAt_6 (fun H locs hE => ?_)
  have hE : EW D vwCl (AE (adL ad) sz) (wE cI cZ cQ ad T ((iup thr place 0), res, cod, len) Cc J Rr Ls) s.heap H locs := hE
  rw [show f_Methods_takeAt (thr, res, cod, len) place = ((iup thr place 0), res, cod, len) from rfl]
  exact E_vret C hr hlk () hE trivial d_Methods_takeAt_7

set_option maxHeartbeats 4000000 in
set_option maxRecDepth 100000 in
theorem c_Methods_isThere (l : Launch) (D : va_G) (cI cZ cQ : ClassId) (ad : Nat → Nat) (sz : Nat) (T : TSt) (M : MSt) (Cc : CSt) (J : JSt) (Rr : RSt) (Ls : LSt) (place : Int) (hM : MI M) (h_place : 0 ≤ place ∧ place < 168) : Met l y_Methods_isThere (Cond.code y_Methods_isThere b_Methods_isThere 2 (some .boolean) :: Wl) { frames := 0, cells := 0, slots := 0, locals := 0 } (PE D vwCl (tyE cI cZ cQ) (wE cI cZ cQ ad T M Cc J Rr Ls) sz [.ref (ad 10), .int (zI place)]) (QEi D vwCl (adL ad) sz (fun (r : Int32) (_ : Unit) => r = zI ((g_thr M) place)) (fun (_ : Unit) => (wE cI cZ cQ ad T M Cc J Rr Ls))) 0 0 (AE (adL ad) sz) := by
  refine E_start (by decide) wE_L (Nat.le_of_ble_eq_true rfl) ?_
  intro p e s m args below meth c C hr hlk hnm hsz hK H locs hE ls hl
  have C : CallFix p m c b_Methods_isThere 2 s args Wl R_Methods := C
  have hl : lv_has ls 2 [(0, .ref (ad 10)), (1, .int (zI place))] := hl
  refine lv_aload_n C.1 C.2.1 d_Methods_isThere_0 rfl (lv_at hl 0 rfl) ?_
  refine gf_Methods_9 C hK hE d_Methods_isThere_1 ?_
  refine lv_iload_n C.1 C.2.1 d_Methods_isThere_4 rfl (lv_at hl 1 rfl) ?_
  refine al_thr (x := ((g_thr M) place)) C hK hE (by omega) rfl d_Methods_isThere_5 ?_
  have hb_1 : (g_thr M) place = 0 ∨ (g_thr M) place = 1 := hM.1 place
  exact E_zret C hr hlk () (by omega) hE rfl d_Methods_isThere_6

set_option maxHeartbeats 4000000 in
set_option maxRecDepth 100000 in
theorem c_Methods_resultAt (l : Launch) (D : va_G) (cI cZ cQ : ClassId) (ad : Nat → Nat) (sz : Nat) (T : TSt) (M : MSt) (Cc : CSt) (J : JSt) (Rr : RSt) (Ls : LSt) (place : Int) (h_place : 0 ≤ place ∧ place < 168) : Met l y_Methods_resultAt (Cond.code y_Methods_resultAt b_Methods_resultAt 2 (some .int) :: Wl) { frames := 0, cells := 0, slots := 0, locals := 0 } (PE D vwCl (tyE cI cZ cQ) (wE cI cZ cQ ad T M Cc J Rr Ls) sz [.ref (ad 10), .int (zI place)]) (QEi D vwCl (adL ad) sz (fun (r : Int32) (_ : Unit) => r = zI ((g_res M) place)) (fun (_ : Unit) => (wE cI cZ cQ ad T M Cc J Rr Ls))) 0 0 (AE (adL ad) sz) := by
  refine E_start (by decide) wE_L (Nat.le_of_ble_eq_true rfl) ?_
  intro p e s m args below meth c C hr hlk hnm hsz hK H locs hE ls hl
  have C : CallFix p m c b_Methods_resultAt 2 s args Wl R_Methods := C
  have hl : lv_has ls 2 [(0, .ref (ad 10)), (1, .int (zI place))] := hl
  refine lv_aload_n C.1 C.2.1 d_Methods_resultAt_0 rfl (lv_at hl 0 rfl) ?_
  refine gf_Methods_15 C hK hE d_Methods_resultAt_1 ?_
  refine lv_iload_n C.1 C.2.1 d_Methods_resultAt_4 rfl (lv_at hl 1 rfl) ?_
  refine al_res (x := ((g_res M) place)) C hK hE (by omega) rfl d_Methods_resultAt_5 ?_
  exact E_iret C hr hlk () hE rfl d_Methods_resultAt_6

set_option maxHeartbeats 4000000 in
set_option maxRecDepth 100000 in
theorem c_Methods_codeAt (l : Launch) (D : va_G) (cI cZ cQ : ClassId) (ad : Nat → Nat) (sz : Nat) (T : TSt) (M : MSt) (Cc : CSt) (J : JSt) (Rr : RSt) (Ls : LSt) (place : Int) (h_place : 0 ≤ place ∧ place < 168) : Met l y_Methods_codeAt (Cond.code y_Methods_codeAt b_Methods_codeAt 2 (some .int) :: Wl) { frames := 0, cells := 0, slots := 0, locals := 0 } (PE D vwCl (tyE cI cZ cQ) (wE cI cZ cQ ad T M Cc J Rr Ls) sz [.ref (ad 10), .int (zI place)]) (QEi D vwCl (adL ad) sz (fun (r : Int32) (_ : Unit) => r = zI ((g_cod M) place)) (fun (_ : Unit) => (wE cI cZ cQ ad T M Cc J Rr Ls))) 0 0 (AE (adL ad) sz) := by
  refine E_start (by decide) wE_L (Nat.le_of_ble_eq_true rfl) ?_
  intro p e s m args below meth c C hr hlk hnm hsz hK H locs hE ls hl
  have C : CallFix p m c b_Methods_codeAt 2 s args Wl R_Methods := C
  have hl : lv_has ls 2 [(0, .ref (ad 10)), (1, .int (zI place))] := hl
  refine lv_aload_n C.1 C.2.1 d_Methods_codeAt_0 rfl (lv_at hl 0 rfl) ?_
  refine gf_Methods_19 C hK hE d_Methods_codeAt_1 ?_
  refine lv_iload_n C.1 C.2.1 d_Methods_codeAt_4 rfl (lv_at hl 1 rfl) ?_
  refine al_cod (x := ((g_cod M) place)) C hK hE (by omega) rfl d_Methods_codeAt_5 ?_
  exact E_iret C hr hlk () hE rfl d_Methods_codeAt_6

set_option maxHeartbeats 4000000 in
set_option maxRecDepth 100000 in
theorem c_Methods_lengthAt (l : Launch) (D : va_G) (cI cZ cQ : ClassId) (ad : Nat → Nat) (sz : Nat) (T : TSt) (M : MSt) (Cc : CSt) (J : JSt) (Rr : RSt) (Ls : LSt) (place : Int) (h_place : 0 ≤ place ∧ place < 168) : Met l y_Methods_lengthAt (Cond.code y_Methods_lengthAt b_Methods_lengthAt 2 (some .int) :: Wl) { frames := 0, cells := 0, slots := 0, locals := 0 } (PE D vwCl (tyE cI cZ cQ) (wE cI cZ cQ ad T M Cc J Rr Ls) sz [.ref (ad 10), .int (zI place)]) (QEi D vwCl (adL ad) sz (fun (r : Int32) (_ : Unit) => r = zI ((g_len M) place)) (fun (_ : Unit) => (wE cI cZ cQ ad T M Cc J Rr Ls))) 0 0 (AE (adL ad) sz) := by
  refine E_start (by decide) wE_L (Nat.le_of_ble_eq_true rfl) ?_
  intro p e s m args below meth c C hr hlk hnm hsz hK H locs hE ls hl
  have C : CallFix p m c b_Methods_lengthAt 2 s args Wl R_Methods := C
  have hl : lv_has ls 2 [(0, .ref (ad 10)), (1, .int (zI place))] := hl
  refine lv_aload_n C.1 C.2.1 d_Methods_lengthAt_0 rfl (lv_at hl 0 rfl) ?_
  refine gf_Methods_22 C hK hE d_Methods_lengthAt_1 ?_
  refine lv_iload_n C.1 C.2.1 d_Methods_lengthAt_4 rfl (lv_at hl 1 rfl) ?_
  refine al_len (x := ((g_len M) place)) C hK hE (by omega) rfl d_Methods_lengthAt_5 ?_
  exact E_iret C hr hlk () hE rfl d_Methods_lengthAt_6

def f_Troubles_clear (Ls : LSt) (v : Int) : LSt := match Ls with | (lc, lz, lg) => (lc, (iup lz v 0), (iup lg v 0))
set_option maxHeartbeats 4000000 in
set_option maxRecDepth 100000 in
theorem c_Troubles_clear (l : Launch) (D : va_G) (cI cZ cQ : ClassId) (ad : Nat → Nat) (sz : Nat) (T : TSt) (M : MSt) (Cc : CSt) (J : JSt) (Rr : RSt) (Ls : LSt) (v : Int) (hlv : 0 ≤ v ∧ v < 5) : Met l y_Troubles_clear (Cond.code y_Troubles_clear b_Troubles_clear 1 none :: Wl) { frames := 0, cells := 0, slots := 0, locals := 0 } (PE D vwCl (tyE cI cZ cQ) (wE cI cZ cQ ad T M Cc J Rr Ls) sz [.ref (ad (26 + v.toNat))]) (QEv D vwCl (adL ad) sz (fun (_ : Unit) => True) (fun (_ : Unit) => (wE cI cZ cQ ad T M Cc J Rr (f_Troubles_clear Ls v)))) 0 0 (AE (adL ad) sz) := by
  obtain ⟨lc, lz, lg⟩ := Ls
  refine E_start (by decide) wE_L (Nat.le_of_ble_eq_true rfl) ?_
  intro p e s m args below meth c C hr hlk hnm hsz hK H locs hE ls hl
  have C : CallFix p m c b_Troubles_clear 1 s args Wl R_Troubles := C
  have hl : lv_has ls 1 [(0, .ref (ad (26 + v.toNat)))] := hl
  refine lv_aload_n C.1 C.2.1 d_Troubles_clear_0 rfl (lv_at hl 0 rfl) ?_
  refine zx_iconst C.1 C.2.1 d_Troubles_clear_1 ?_
  refine pf_Troubles_15 C hK (v := v) (by omega) hE d_Troubles_clear_2 (fun H locs hE => ?_)
  have hE : EW D vwCl (AE (adL ad) sz) (wE cI cZ cQ ad T M Cc J Rr (lc, (iup lz v 0), lg)) s.heap H locs := hE
  refine lv_aload_n C.1 C.2.1 d_Troubles_clear_5 rfl (lv_at hl 0 rfl) ?_
  refine zx_iconst C.1 C.2.1 d_Troubles_clear_6 ?_
  refine pf_Troubles_19 C hK (v := v) (by omega) hE (by omega) d_Troubles_clear_7 (fun H locs hE => ?_)
  have hE : EW D vwCl (AE (adL ad) sz) (wE cI cZ cQ ad T M Cc J Rr (lc, (iup lz v 0), (iup lg v 0))) s.heap H locs := hE
  rw [show f_Troubles_clear (lc, lz, lg) v = (lc, (iup lz v 0), (iup lg v 0)) from rfl]
  exact E_vret C hr hlk () hE trivial d_Troubles_clear_10

def f_Troubles_isEmpty (Ls : LSt) (v : Int) : Int := if ((g_lz Ls) v) = 0 then 1 else 0
set_option maxHeartbeats 4000000 in
set_option maxRecDepth 100000 in
theorem c_Troubles_isEmpty (l : Launch) (D : va_G) (cI cZ cQ : ClassId) (ad : Nat → Nat) (sz : Nat) (T : TSt) (M : MSt) (Cc : CSt) (J : JSt) (Rr : RSt) (Ls : LSt) (v : Int) (hlv : 0 ≤ v ∧ v < 5) (hLz : ∀ k, 0 ≤ g_lz Ls k ∧ g_lz Ls k < 1000000000) : Met l y_Troubles_isEmpty (Cond.code y_Troubles_isEmpty b_Troubles_isEmpty 1 (some .boolean) :: Wl) { frames := 0, cells := 0, slots := 0, locals := 0 } (PE D vwCl (tyE cI cZ cQ) (wE cI cZ cQ ad T M Cc J Rr Ls) sz [.ref (ad (26 + v.toNat))]) (QEi D vwCl (adL ad) sz (fun (r : Int32) (_ : Unit) => r = zI (f_Troubles_isEmpty Ls v)) (fun (_ : Unit) => (wE cI cZ cQ ad T M Cc J Rr Ls))) 0 0 (AE (adL ad) sz) := by
  refine E_start (by decide) wE_L (Nat.le_of_ble_eq_true rfl) ?_
  intro p e s m args below meth c C hr hlk hnm hsz hK H locs hE ls hl
  have C : CallFix p m c b_Troubles_isEmpty 1 s args Wl R_Troubles := C
  have hl : lv_has ls 1 [(0, .ref (ad (26 + v.toNat)))] := hl
  refine lv_aload_n C.1 C.2.1 d_Troubles_isEmpty_0 rfl (lv_at hl 0 rfl) ?_
  refine gf_Troubles_15 (x := ((g_lz Ls) v)) C hK (v := v) (by omega) hE rfl d_Troubles_isEmpty_1 ?_
  have hb_1 : 0 ≤ (g_lz Ls) v ∧ (g_lz Ls) v < 1000000000 := hLz v
  refine zx_if_ne (tgt := 11) C.1 C.2.1 d_Troubles_isEmpty_4 (by decide) (by omega) (fun c_2 => ?_) (fun c_2 => ?_)
  · refine zx_iconst C.1 C.2.1 d_Troubles_isEmpty_11 ?_
    rw [show f_Troubles_isEmpty Ls v = 0 from by simp only [f_Troubles_isEmpty, if_neg c_2]]
    exact E_zret C hr hlk () (by omega) hE rfl d_Troubles_isEmpty_12
  · refine zx_iconst C.1 C.2.1 d_Troubles_isEmpty_7 ?_
    refine lv_goto (tgt := 12) C.1 C.2.1 d_Troubles_isEmpty_8 (by decide) ?_
    rw [show f_Troubles_isEmpty Ls v = 1 from by simp only [f_Troubles_isEmpty, if_pos c_2]]
    exact E_zret C hr hlk () (by omega) hE rfl d_Troubles_isEmpty_12
theorem f_Troubles_isEmpty_rg (Ls : LSt) (v : Int) : f_Troubles_isEmpty Ls v = 0 ∨ f_Troubles_isEmpty Ls v = 1 := by
  unfold f_Troubles_isEmpty
  repeat' (first | split | exact Or.inl rfl | exact Or.inr rfl | exact f_Engine_isWithin_rg _ _ _ | exact f_Choice_suits_rg _ _ _ | exact f_Tree_isFull_rg _ | exact f_Tree_isNode_rg _ _ | exact f_Tree_isContainer_rg _ _ | exact f_Tree_mayHave_rg _ _ _)

def f_Troubles_status (Ls : LSt) (v : Int) : Int := if ((g_lz Ls) v) = 0 then 0 else if ((g_lg Ls) v) = 0 then 1 else 2
set_option maxHeartbeats 4000000 in
set_option maxRecDepth 100000 in
theorem c_Troubles_status (l : Launch) (D : va_G) (cI cZ cQ : ClassId) (ad : Nat → Nat) (sz : Nat) (T : TSt) (M : MSt) (Cc : CSt) (J : JSt) (Rr : RSt) (Ls : LSt) (v : Int) (hlv : 0 ≤ v ∧ v < 5) (hLz : ∀ k, 0 ≤ g_lz Ls k ∧ g_lz Ls k < 1000000000) (hLg : ∀ k, g_lg Ls k = 0 ∨ g_lg Ls k = 1) : Met l y_Troubles_status (Cond.code y_Troubles_status b_Troubles_status 1 (some .int) :: Wl) { frames := 0, cells := 0, slots := 0, locals := 0 } (PE D vwCl (tyE cI cZ cQ) (wE cI cZ cQ ad T M Cc J Rr Ls) sz [.ref (ad (26 + v.toNat))]) (QEi D vwCl (adL ad) sz (fun (r : Int32) (_ : Unit) => r = zI (f_Troubles_status Ls v)) (fun (_ : Unit) => (wE cI cZ cQ ad T M Cc J Rr Ls))) 0 0 (AE (adL ad) sz) := by
  refine E_start (by decide) wE_L (Nat.le_of_ble_eq_true rfl) ?_
  intro p e s m args below meth c C hr hlk hnm hsz hK H locs hE ls hl
  have C : CallFix p m c b_Troubles_status 1 s args Wl R_Troubles := C
  have hl : lv_has ls 1 [(0, .ref (ad (26 + v.toNat)))] := hl
  refine lv_aload_n C.1 C.2.1 d_Troubles_status_0 rfl (lv_at hl 0 rfl) ?_
  refine gf_Troubles_15 (x := ((g_lz Ls) v)) C hK (v := v) (by omega) hE rfl d_Troubles_status_1 ?_
  have hb_1 : 0 ≤ (g_lz Ls) v ∧ (g_lz Ls) v < 1000000000 := hLz v
  refine zx_if_ne (tgt := 9) C.1 C.2.1 d_Troubles_status_4 (by decide) (by omega) (fun c_2 => ?_) (fun c_2 => ?_)
  · refine lv_aload_n C.1 C.2.1 d_Troubles_status_9 rfl (lv_at hl 0 rfl) ?_
    refine gf_Troubles_19 (x := ((g_lg Ls) v)) C hK (v := v) (by omega) hE rfl d_Troubles_status_10 ?_
    have hb_3 : (g_lg Ls) v = 0 ∨ (g_lg Ls) v = 1 := hLg v
    refine zx_if_eq (tgt := 20) C.1 C.2.1 d_Troubles_status_13 (by decide) (by omega) (fun c_4 => ?_) (fun c_4 => ?_)
    · refine zx_iconst C.1 C.2.1 d_Troubles_status_20 ?_
      rw [show f_Troubles_status Ls v = 1 from by simp only [f_Troubles_status, if_neg c_2, if_pos c_4]]
      exact E_iret C hr hlk () hE rfl d_Troubles_status_21
    · refine zx_iconst C.1 C.2.1 d_Troubles_status_16 ?_
      refine lv_goto (tgt := 21) C.1 C.2.1 d_Troubles_status_17 (by decide) ?_
      rw [show f_Troubles_status Ls v = 2 from by simp only [f_Troubles_status, if_neg c_2, if_neg c_4]]
      exact E_iret C hr hlk () hE rfl d_Troubles_status_21
  · refine zx_iconst C.1 C.2.1 d_Troubles_status_7 ?_
    rw [show f_Troubles_status Ls v = 0 from by simp only [f_Troubles_status, if_pos c_2]]
    exact E_iret C hr hlk () hE rfl d_Troubles_status_8

def f_Troubles_firstCode (Ls : LSt) (v : Int) : Int := if ((g_lz Ls) v) = 0 then (-1) else ((g_lc Ls) v 0)
set_option maxHeartbeats 4000000 in
set_option maxRecDepth 100000 in
theorem c_Troubles_firstCode (l : Launch) (D : va_G) (cI cZ cQ : ClassId) (ad : Nat → Nat) (sz : Nat) (T : TSt) (M : MSt) (Cc : CSt) (J : JSt) (Rr : RSt) (Ls : LSt) (v : Int) (hlv : 0 ≤ v ∧ v < 5) (hLz : ∀ k, 0 ≤ g_lz Ls k ∧ g_lz Ls k < 1000000000) : Met l y_Troubles_firstCode (Cond.code y_Troubles_firstCode b_Troubles_firstCode 1 (some .int) :: Wl) { frames := 0, cells := 0, slots := 0, locals := 0 } (PE D vwCl (tyE cI cZ cQ) (wE cI cZ cQ ad T M Cc J Rr Ls) sz [.ref (ad (26 + v.toNat))]) (QEi D vwCl (adL ad) sz (fun (r : Int32) (_ : Unit) => r = zI (f_Troubles_firstCode Ls v)) (fun (_ : Unit) => (wE cI cZ cQ ad T M Cc J Rr Ls))) 0 0 (AE (adL ad) sz) := by
  refine E_start (by decide) wE_L (Nat.le_of_ble_eq_true rfl) ?_
  intro p e s m args below meth c C hr hlk hnm hsz hK H locs hE ls hl
  have C : CallFix p m c b_Troubles_firstCode 1 s args Wl R_Troubles := C
  have hl : lv_has ls 1 [(0, .ref (ad (26 + v.toNat)))] := hl
  refine lv_aload_n C.1 C.2.1 d_Troubles_firstCode_0 rfl (lv_at hl 0 rfl) ?_
  refine gf_Troubles_15 (x := ((g_lz Ls) v)) C hK (v := v) (by omega) hE rfl d_Troubles_firstCode_1 ?_
  have hb_1 : 0 ≤ (g_lz Ls) v ∧ (g_lz Ls) v < 1000000000 := hLz v
  refine zx_if_ne (tgt := 11) C.1 C.2.1 d_Troubles_firstCode_4 (by decide) (by omega) (fun c_2 => ?_) (fun c_2 => ?_)
  · refine lv_aload_n C.1 C.2.1 d_Troubles_firstCode_11 rfl (lv_at hl 0 rfl) ?_
    refine gf_Troubles_9 C hK (v := v) (by omega) hE d_Troubles_firstCode_12 ?_
    refine zx_iconst C.1 C.2.1 d_Troubles_firstCode_15 ?_
    refine al_lc (x := ((g_lc Ls) v 0)) C hK (v := v) (by omega) hE (by omega) rfl d_Troubles_firstCode_16 ?_
    rw [show f_Troubles_firstCode Ls v = ((g_lc Ls) v 0) from by simp only [f_Troubles_firstCode, if_neg c_2]]
    exact E_iret C hr hlk () hE rfl d_Troubles_firstCode_17
  · refine zx_iconst C.1 C.2.1 d_Troubles_firstCode_7 ?_
    refine lv_goto (tgt := 17) C.1 C.2.1 d_Troubles_firstCode_8 (by decide) ?_
    rw [show f_Troubles_firstCode Ls v = (-1) from by simp only [f_Troubles_firstCode, if_pos c_2]]
    exact E_iret C hr hlk () hE rfl d_Troubles_firstCode_17

def f_Troubles_sizeBehindFirst (Ls : LSt) (v : Int) : Int := if ((g_lz Ls) v) = 0 then 0 else (((g_lz Ls) v) - 1)
set_option maxHeartbeats 4000000 in
set_option maxRecDepth 100000 in
theorem c_Troubles_sizeBehindFirst (l : Launch) (D : va_G) (cI cZ cQ : ClassId) (ad : Nat → Nat) (sz : Nat) (T : TSt) (M : MSt) (Cc : CSt) (J : JSt) (Rr : RSt) (Ls : LSt) (v : Int) (hlv : 0 ≤ v ∧ v < 5) (hLz : ∀ k, 0 ≤ g_lz Ls k ∧ g_lz Ls k < 1000000000) : Met l y_Troubles_sizeBehindFirst (Cond.code y_Troubles_sizeBehindFirst b_Troubles_sizeBehindFirst 1 (some .int) :: Wl) { frames := 0, cells := 0, slots := 0, locals := 0 } (PE D vwCl (tyE cI cZ cQ) (wE cI cZ cQ ad T M Cc J Rr Ls) sz [.ref (ad (26 + v.toNat))]) (QEi D vwCl (adL ad) sz (fun (r : Int32) (_ : Unit) => r = zI (f_Troubles_sizeBehindFirst Ls v)) (fun (_ : Unit) => (wE cI cZ cQ ad T M Cc J Rr Ls))) 0 0 (AE (adL ad) sz) := by
  refine E_start (by decide) wE_L (Nat.le_of_ble_eq_true rfl) ?_
  intro p e s m args below meth c C hr hlk hnm hsz hK H locs hE ls hl
  have C : CallFix p m c b_Troubles_sizeBehindFirst 1 s args Wl R_Troubles := C
  have hl : lv_has ls 1 [(0, .ref (ad (26 + v.toNat)))] := hl
  refine lv_aload_n C.1 C.2.1 d_Troubles_sizeBehindFirst_0 rfl (lv_at hl 0 rfl) ?_
  refine gf_Troubles_15 (x := ((g_lz Ls) v)) C hK (v := v) (by omega) hE rfl d_Troubles_sizeBehindFirst_1 ?_
  have hb_1 : 0 ≤ (g_lz Ls) v ∧ (g_lz Ls) v < 1000000000 := hLz v
  refine zx_if_ne (tgt := 11) C.1 C.2.1 d_Troubles_sizeBehindFirst_4 (by decide) (by omega) (fun c_2 => ?_) (fun c_2 => ?_)
  · refine lv_aload_n C.1 C.2.1 d_Troubles_sizeBehindFirst_11 rfl (lv_at hl 0 rfl) ?_
    refine gf_Troubles_15 (x := ((g_lz Ls) v)) C hK (v := v) (by omega) hE rfl d_Troubles_sizeBehindFirst_12 ?_
    have hb_3 : 0 ≤ (g_lz Ls) v ∧ (g_lz Ls) v < 1000000000 := hLz v
    refine zx_iconst C.1 C.2.1 d_Troubles_sizeBehindFirst_15 ?_
    refine zx_isub C.1 C.2.1 d_Troubles_sizeBehindFirst_16 ?_
    rw [show f_Troubles_sizeBehindFirst Ls v = (((g_lz Ls) v) - 1) from by simp only [f_Troubles_sizeBehindFirst, if_neg c_2]]
    exact E_iret C hr hlk () hE rfl d_Troubles_sizeBehindFirst_17
  · refine zx_iconst C.1 C.2.1 d_Troubles_sizeBehindFirst_7 ?_
    refine lv_goto (tgt := 17) C.1 C.2.1 d_Troubles_sizeBehindFirst_8 (by decide) ?_
    rw [show f_Troubles_sizeBehindFirst Ls v = 0 from by simp only [f_Troubles_sizeBehindFirst, if_pos c_2]]
    exact E_iret C hr hlk () hE rfl d_Troubles_sizeBehindFirst_17

def f_Troubles_codeOrNone (Ls : LSt) (v : Int) (k : Int) : Int := if ((g_lz Ls) v) ≤ k then (-1000) else ((g_lc Ls) v k)
set_option maxHeartbeats 4000000 in
set_option maxRecDepth 100000 in
theorem c_Troubles_codeOrNone (l : Launch) (D : va_G) (cI cZ cQ : ClassId) (ad : Nat → Nat) (sz : Nat) (T : TSt) (M : MSt) (Cc : CSt) (J : JSt) (Rr : RSt) (Ls : LSt) (v : Int) (k : Int) (hlv : 0 ≤ v ∧ v < 5) (hLz : ∀ k, 0 ≤ g_lz Ls k ∧ g_lz Ls k < 1000000000) (h_k : 0 ≤ k ∧ k < 4) : Met l y_Troubles_codeOrNone (Cond.code y_Troubles_codeOrNone b_Troubles_codeOrNone 2 (some .int) :: Wl) { frames := 0, cells := 0, slots := 0, locals := 0 } (PE D vwCl (tyE cI cZ cQ) (wE cI cZ cQ ad T M Cc J Rr Ls) sz [.ref (ad (26 + v.toNat)), .int (zI k)]) (QEi D vwCl (adL ad) sz (fun (r : Int32) (_ : Unit) => r = zI (f_Troubles_codeOrNone Ls v k)) (fun (_ : Unit) => (wE cI cZ cQ ad T M Cc J Rr Ls))) 0 0 (AE (adL ad) sz) := by
  refine E_start (by decide) wE_L (Nat.le_of_ble_eq_true rfl) ?_
  intro p e s m args below meth c C hr hlk hnm hsz hK H locs hE ls hl
  have C : CallFix p m c b_Troubles_codeOrNone 2 s args Wl R_Troubles := C
  have hl : lv_has ls 2 [(0, .ref (ad (26 + v.toNat))), (1, .int (zI k))] := hl
  refine lv_iload_n C.1 C.2.1 d_Troubles_codeOrNone_0 rfl (lv_at hl 1 rfl) ?_
  refine lv_aload_n C.1 C.2.1 d_Troubles_codeOrNone_1 rfl (lv_at hl 0 rfl) ?_
  refine gf_Troubles_15 (x := ((g_lz Ls) v)) C hK (v := v) (by omega) hE rfl d_Troubles_codeOrNone_2 ?_
  have hb_1 : 0 ≤ (g_lz Ls) v ∧ (g_lz Ls) v < 1000000000 := hLz v
  refine zx_icmp_ge (tgt := 17) C.1 C.2.1 d_Troubles_codeOrNone_5 (by decide) (by omega) (fun c_2 => ?_) (fun c_2 => ?_)
  · refine zx_sipush C.1 C.2.1 d_Troubles_codeOrNone_17 (by decide) ?_
    rw [show f_Troubles_codeOrNone Ls v k = (-1000) from by simp only [f_Troubles_codeOrNone, if_pos c_2]]
    exact E_iret C hr hlk () hE rfl d_Troubles_codeOrNone_20
  · refine lv_aload_n C.1 C.2.1 d_Troubles_codeOrNone_8 rfl (lv_at hl 0 rfl) ?_
    refine gf_Troubles_9 C hK (v := v) (by omega) hE d_Troubles_codeOrNone_9 ?_
    refine lv_iload_n C.1 C.2.1 d_Troubles_codeOrNone_12 rfl (lv_at hl 1 rfl) ?_
    refine al_lc (x := ((g_lc Ls) v k)) C hK (v := v) (by omega) hE (by omega) rfl d_Troubles_codeOrNone_13 ?_
    refine lv_goto (tgt := 20) C.1 C.2.1 d_Troubles_codeOrNone_14 (by decide) ?_
    rw [show f_Troubles_codeOrNone Ls v k = ((g_lc Ls) v k) from by simp only [f_Troubles_codeOrNone, if_neg c_2]]
    exact E_iret C hr hlk () hE rfl d_Troubles_codeOrNone_20

def f_Troubles_join (Ls : LSt) (v : Int) (code : Int) (gaveUp : Int) : LSt := match Ls with | (lc, lz, lg) => if (lz v) = 0 then if 4 ≤ (lz v) then (lc, (iup lz v ((lz v) + 1)), (iup lg v gaveUp)) else ((iup2 lc v (lz v) code), (iup lz v ((lz v) + 1)), (iup lg v gaveUp)) else if 4 ≤ (lz v) then (lc, (iup lz v ((lz v) + 1)), lg) else ((iup2 lc v (lz v) code), (iup lz v ((lz v) + 1)), lg)
set_option maxHeartbeats 4000000 in
set_option maxRecDepth 100000 in
theorem c_Troubles_join (l : Launch) (D : va_G) (cI cZ cQ : ClassId) (ad : Nat → Nat) (sz : Nat) (T : TSt) (M : MSt) (Cc : CSt) (J : JSt) (Rr : RSt) (Ls : LSt) (v : Int) (code : Int) (gaveUp : Int) (hlv : 0 ≤ v ∧ v < 5) (hb_gaveUp : gaveUp = 0 ∨ gaveUp = 1) (hLz : ∀ k, 0 ≤ g_lz Ls k ∧ g_lz Ls k < 1000000000) : Met l y_Troubles_join (Cond.code y_Troubles_join b_Troubles_join 3 none :: Wl) { frames := 0, cells := 0, slots := 0, locals := 0 } (PE D vwCl (tyE cI cZ cQ) (wE cI cZ cQ ad T M Cc J Rr Ls) sz [.ref (ad (26 + v.toNat)), .int (zI code), .int (zI gaveUp)]) (QEv D vwCl (adL ad) sz (fun (_ : Unit) => True) (fun (_ : Unit) => (wE cI cZ cQ ad T M Cc J Rr (f_Troubles_join Ls v code gaveUp)))) 0 0 (AE (adL ad) sz) := by
  obtain ⟨lc, lz, lg⟩ := Ls
  simp only [g_lc, g_lz, g_lg] at hlv hb_gaveUp hLz
  refine E_start (by decide) wE_L (Nat.le_of_ble_eq_true rfl) ?_
  intro p e s m args below meth c C hr hlk hnm hsz hK H locs hE ls hl
  have C : CallFix p m c b_Troubles_join 3 s args Wl R_Troubles := C
  have hl : lv_has ls 3 [(0, .ref (ad (26 + v.toNat))), (1, .int (zI code)), (2, .int (zI gaveUp))] := hl
  refine lv_aload_n C.1 C.2.1 d_Troubles_join_0 rfl (lv_at hl 0 rfl) ?_
  refine gf_Troubles_15 (x := (lz v)) C hK (v := v) (by omega) hE rfl d_Troubles_join_1 ?_
  have hb_1 : 0 ≤ lz v ∧ lz v < 1000000000 := hLz v
  refine zx_if_ne (tgt := 12) C.1 C.2.1 d_Troubles_join_4 (by decide) (by omega) (fun c_2 => ?_) (fun c_2 => ?_)
  · refine lv_aload_n C.1 C.2.1 d_Troubles_join_12 rfl (lv_at hl 0 rfl) ?_
    refine gf_Troubles_15 (x := (lz v)) C hK (v := v) (by omega) hE rfl d_Troubles_join_13 ?_
    have hb_3 : 0 ≤ lz v ∧ lz v < 1000000000 := hLz v
    refine zx_iconst C.1 C.2.1 d_Troubles_join_16 ?_
    refine zx_icmp_ge (tgt := 30) C.1 C.2.1 d_Troubles_join_17 (by decide) (by omega) (fun c_4 => ?_) (fun c_4 => ?_)
    · refine lv_aload_n C.1 C.2.1 d_Troubles_join_30 rfl (lv_at hl 0 rfl) ?_
      refine lv_dup C.1 C.2.1 d_Troubles_join_31 rfl ?_
      refine gf_Troubles_15 (x := (lz v)) C hK (v := v) (by omega) hE rfl d_Troubles_join_32 ?_
      have hb_5 : 0 ≤ lz v ∧ lz v < 1000000000 := hLz v
      refine zx_iconst C.1 C.2.1 d_Troubles_join_35 ?_
      refine zx_iadd C.1 C.2.1 d_Troubles_join_36 ?_
      refine pf_Troubles_15 C hK (v := v) (by omega) hE d_Troubles_join_37 (fun H locs hE => ?_)
      have hE : EW D vwCl (AE (adL ad) sz) (wE cI cZ cQ ad T M Cc J Rr (lc, (iup lz v ((lz v) + 1)), lg)) s.heap H locs := hE
      rw [show f_Troubles_join (lc, lz, lg) v code gaveUp = (lc, (iup lz v ((lz v) + 1)), lg) from by simp only [f_Troubles_join, if_neg c_2, if_pos c_4]]
      exact E_vret C hr hlk () hE trivial d_Troubles_join_40
    · refine lv_aload_n C.1 C.2.1 d_Troubles_join_20 rfl (lv_at hl 0 rfl) ?_
      refine gf_Troubles_9 C hK (v := v) (by omega) hE d_Troubles_join_21 ?_
      refine lv_aload_n C.1 C.2.1 d_Troubles_join_24 rfl (lv_at hl 0 rfl) ?_
      refine gf_Troubles_15 (x := (lz v)) C hK (v := v) (by omega) hE rfl d_Troubles_join_25 ?_
      have hb_6 : 0 ≤ lz v ∧ lz v < 1000000000 := hLz v
      refine lv_iload_n C.1 C.2.1 d_Troubles_join_28 rfl (lv_at hl 1 rfl) ?_
      refine as_lc C hK (v := v) (by omega) hE (by omega) d_Troubles_join_29 (fun H locs hE => ?_)
      have hE : EW D vwCl (AE (adL ad) sz) (wE cI cZ cQ ad T M Cc J Rr ((iup2 lc v (lz v) code), lz, lg)) s.heap H locs := hE
      refine lv_aload_n C.1 C.2.1 d_Troubles_join_30 rfl (lv_at hl 0 rfl) ?_
      refine lv_dup C.1 C.2.1 d_Troubles_join_31 rfl ?_
      refine gf_Troubles_15 (x := (lz v)) C hK (v := v) (by omega) hE rfl d_Troubles_join_32 ?_
      have hb_7 : 0 ≤ lz v ∧ lz v < 1000000000 := hLz v
      refine zx_iconst C.1 C.2.1 d_Troubles_join_35 ?_
      refine zx_iadd C.1 C.2.1 d_Troubles_join_36 ?_
      refine pf_Troubles_15 C hK (v := v) (by omega) hE d_Troubles_join_37 (fun H locs hE => ?_)
      have hE : EW D vwCl (AE (adL ad) sz) (wE cI cZ cQ ad T M Cc J Rr ((iup2 lc v (lz v) code), (iup lz v ((lz v) + 1)), lg)) s.heap H locs := hE
      rw [show f_Troubles_join (lc, lz, lg) v code gaveUp = ((iup2 lc v (lz v) code), (iup lz v ((lz v) + 1)), lg) from by simp only [f_Troubles_join, if_neg c_2, if_neg c_4]]
      exact E_vret C hr hlk () hE trivial d_Troubles_join_40
  · refine lv_aload_n C.1 C.2.1 d_Troubles_join_7 rfl (lv_at hl 0 rfl) ?_
    refine lv_iload_n C.1 C.2.1 d_Troubles_join_8 rfl (lv_at hl 2 rfl) ?_
    refine pf_Troubles_19 C hK (v := v) (by omega) hE (by omega) d_Troubles_join_9 (fun H locs hE => ?_)
    have hE : EW D vwCl (AE (adL ad) sz) (wE cI cZ cQ ad T M Cc J Rr (lc, lz, (iup lg v gaveUp))) s.heap H locs := hE
    refine lv_aload_n C.1 C.2.1 d_Troubles_join_12 rfl (lv_at hl 0 rfl) ?_
    refine gf_Troubles_15 (x := (lz v)) C hK (v := v) (by omega) hE rfl d_Troubles_join_13 ?_
    have hb_8 : 0 ≤ lz v ∧ lz v < 1000000000 := hLz v
    refine zx_iconst C.1 C.2.1 d_Troubles_join_16 ?_
    refine zx_icmp_ge (tgt := 30) C.1 C.2.1 d_Troubles_join_17 (by decide) (by omega) (fun c_9 => ?_) (fun c_9 => ?_)
    · refine lv_aload_n C.1 C.2.1 d_Troubles_join_30 rfl (lv_at hl 0 rfl) ?_
      refine lv_dup C.1 C.2.1 d_Troubles_join_31 rfl ?_
      refine gf_Troubles_15 (x := (lz v)) C hK (v := v) (by omega) hE rfl d_Troubles_join_32 ?_
      have hb_10 : 0 ≤ lz v ∧ lz v < 1000000000 := hLz v
      refine zx_iconst C.1 C.2.1 d_Troubles_join_35 ?_
      refine zx_iadd C.1 C.2.1 d_Troubles_join_36 ?_
      refine pf_Troubles_15 C hK (v := v) (by omega) hE d_Troubles_join_37 (fun H locs hE => ?_)
      have hE : EW D vwCl (AE (adL ad) sz) (wE cI cZ cQ ad T M Cc J Rr (lc, (iup lz v ((lz v) + 1)), (iup lg v gaveUp))) s.heap H locs := hE
      rw [show f_Troubles_join (lc, lz, lg) v code gaveUp = (lc, (iup lz v ((lz v) + 1)), (iup lg v gaveUp)) from by simp only [f_Troubles_join, if_pos c_2, if_pos c_9]]
      exact E_vret C hr hlk () hE trivial d_Troubles_join_40
    · refine lv_aload_n C.1 C.2.1 d_Troubles_join_20 rfl (lv_at hl 0 rfl) ?_
      refine gf_Troubles_9 C hK (v := v) (by omega) hE d_Troubles_join_21 ?_
      refine lv_aload_n C.1 C.2.1 d_Troubles_join_24 rfl (lv_at hl 0 rfl) ?_
      refine gf_Troubles_15 (x := (lz v)) C hK (v := v) (by omega) hE rfl d_Troubles_join_25 ?_
      have hb_11 : 0 ≤ lz v ∧ lz v < 1000000000 := hLz v
      refine lv_iload_n C.1 C.2.1 d_Troubles_join_28 rfl (lv_at hl 1 rfl) ?_
      refine as_lc C hK (v := v) (by omega) hE (by omega) d_Troubles_join_29 (fun H locs hE => ?_)
      have hE : EW D vwCl (AE (adL ad) sz) (wE cI cZ cQ ad T M Cc J Rr ((iup2 lc v (lz v) code), lz, (iup lg v gaveUp))) s.heap H locs := hE
      refine lv_aload_n C.1 C.2.1 d_Troubles_join_30 rfl (lv_at hl 0 rfl) ?_
      refine lv_dup C.1 C.2.1 d_Troubles_join_31 rfl ?_
      refine gf_Troubles_15 (x := (lz v)) C hK (v := v) (by omega) hE rfl d_Troubles_join_32 ?_
      have hb_12 : 0 ≤ lz v ∧ lz v < 1000000000 := hLz v
      refine zx_iconst C.1 C.2.1 d_Troubles_join_35 ?_
      refine zx_iadd C.1 C.2.1 d_Troubles_join_36 ?_
      refine pf_Troubles_15 C hK (v := v) (by omega) hE d_Troubles_join_37 (fun H locs hE => ?_)
      have hE : EW D vwCl (AE (adL ad) sz) (wE cI cZ cQ ad T M Cc J Rr ((iup2 lc v (lz v) code), (iup lz v ((lz v) + 1)), (iup lg v gaveUp))) s.heap H locs := hE
      rw [show f_Troubles_join (lc, lz, lg) v code gaveUp = ((iup2 lc v (lz v) code), (iup lz v ((lz v) + 1)), (iup lg v gaveUp)) from by simp only [f_Troubles_join, if_pos c_2, if_neg c_9]]
      exact E_vret C hr hlk () hE trivial d_Troubles_join_40
end
section
theorem status_rg (Ls : LSt) (v : Int) : 0 ≤ f_Troubles_status Ls v ∧ f_Troubles_status Ls v ≤ 2 := by
  unfold f_Troubles_status
  repeat' (first | split | exact ⟨by decide, by decide⟩)
set_option maxHeartbeats 4000000 in
set_option maxRecDepth 100000 in
theorem c_Journal_events (l : Launch) (D : va_G) (cI cZ cQ : ClassId) (ad : Nat → Nat) (sz : Nat) (T : TSt) (M : MSt) (Cc : CSt) (J : JSt) (Rr : RSt) (Ls : LSt)   : Met l y_Journal_events (Cond.code y_Journal_events b_Journal_events 1 (some .int) :: Wl) { frames := 0, cells := 0, slots := 0, locals := 0 } (PE D vwCl (tyE cI cZ cQ) (wE cI cZ cQ ad T M Cc J Rr Ls) sz [.ref (ad 18)]) (QEi D vwCl (adL ad) sz (fun (r : Int32) (_ : Unit) => r = zI (g_ev J)) (fun (_ : Unit) => (wE cI cZ cQ ad T M Cc J Rr Ls))) 0 0 (AE (adL ad) sz) := by
  refine E_start (by decide) wE_L (Nat.le_of_ble_eq_true rfl) ?_
  intro p e s m args below meth c C hr hlk hnm hsz hK H locs hE ls hl
  have C : CallFix p m c b_Journal_events 1 s args Wl R_Journal := C
  have hl : lv_has ls 1 [(0, .ref (ad 18))] := hl
  refine lv_aload_n C.1 C.2.1 d_Journal_events_0 rfl (lv_at hl 0 rfl) ?_
  refine gf_Journal_21 (x := (g_ev J)) C hK hE rfl d_Journal_events_1 ?_
  exact E_iret C hr hlk () hE rfl d_Journal_events_4

set_option maxHeartbeats 4000000 in
set_option maxRecDepth 100000 in
theorem c_Journal_skips (l : Launch) (D : va_G) (cI cZ cQ : ClassId) (ad : Nat → Nat) (sz : Nat) (T : TSt) (M : MSt) (Cc : CSt) (J : JSt) (Rr : RSt) (Ls : LSt)   : Met l y_Journal_skips (Cond.code y_Journal_skips b_Journal_skips 1 (some .int) :: Wl) { frames := 0, cells := 0, slots := 0, locals := 0 } (PE D vwCl (tyE cI cZ cQ) (wE cI cZ cQ ad T M Cc J Rr Ls) sz [.ref (ad 18)]) (QEi D vwCl (adL ad) sz (fun (r : Int32) (_ : Unit) => r = zI (g_sk J)) (fun (_ : Unit) => (wE cI cZ cQ ad T M Cc J Rr Ls))) 0 0 (AE (adL ad) sz) := by
  refine E_start (by decide) wE_L (Nat.le_of_ble_eq_true rfl) ?_
  intro p e s m args below meth c C hr hlk hnm hsz hK H locs hE ls hl
  have C : CallFix p m c b_Journal_skips 1 s args Wl R_Journal := C
  have hl : lv_has ls 1 [(0, .ref (ad 18))] := hl
  refine lv_aload_n C.1 C.2.1 d_Journal_skips_0 rfl (lv_at hl 0 rfl) ?_
  refine gf_Journal_25 (x := (g_sk J)) C hK hE rfl d_Journal_skips_1 ?_
  exact E_iret C hr hlk () hE rfl d_Journal_skips_4

set_option maxHeartbeats 4000000 in
set_option maxRecDepth 100000 in
theorem c_Journal_troubledContainers (l : Launch) (D : va_G) (cI cZ cQ : ClassId) (ad : Nat → Nat) (sz : Nat) (T : TSt) (M : MSt) (Cc : CSt) (J : JSt) (Rr : RSt) (Ls : LSt)   : Met l y_Journal_troubledContainers (Cond.code y_Journal_troubledContainers b_Journal_troubledContainers 1 (some .int) :: Wl) { frames := 0, cells := 0, slots := 0, locals := 0 } (PE D vwCl (tyE cI cZ cQ) (wE cI cZ cQ ad T M Cc J Rr Ls) sz [.ref (ad 18)]) (QEi D vwCl (adL ad) sz (fun (r : Int32) (_ : Unit) => r = zI (g_tc J)) (fun (_ : Unit) => (wE cI cZ cQ ad T M Cc J Rr Ls))) 0 0 (AE (adL ad) sz) := by
  refine E_start (by decide) wE_L (Nat.le_of_ble_eq_true rfl) ?_
  intro p e s m args below meth c C hr hlk hnm hsz hK H locs hE ls hl
  have C : CallFix p m c b_Journal_troubledContainers 1 s args Wl R_Journal := C
  have hl : lv_has ls 1 [(0, .ref (ad 18))] := hl
  refine lv_aload_n C.1 C.2.1 d_Journal_troubledContainers_0 rfl (lv_at hl 0 rfl) ?_
  refine gf_Journal_28 (x := (g_tc J)) C hK hE rfl d_Journal_troubledContainers_1 ?_
  exact E_iret C hr hlk () hE rfl d_Journal_troubledContainers_4

set_option maxHeartbeats 4000000 in
set_option maxRecDepth 100000 in
theorem c_Journal_hasFailure (l : Launch) (D : va_G) (cI cZ cQ : ClassId) (ad : Nat → Nat) (sz : Nat) (T : TSt) (M : MSt) (Cc : CSt) (J : JSt) (Rr : RSt) (Ls : LSt)  (hfa : g_fa J = 0 ∨ g_fa J = 1) : Met l y_Journal_hasFailure (Cond.code y_Journal_hasFailure b_Journal_hasFailure 1 (some .boolean) :: Wl) { frames := 0, cells := 0, slots := 0, locals := 0 } (PE D vwCl (tyE cI cZ cQ) (wE cI cZ cQ ad T M Cc J Rr Ls) sz [.ref (ad 18)]) (QEi D vwCl (adL ad) sz (fun (r : Int32) (_ : Unit) => r = zI (g_fa J)) (fun (_ : Unit) => (wE cI cZ cQ ad T M Cc J Rr Ls))) 0 0 (AE (adL ad) sz) := by
  refine E_start (by decide) wE_L (Nat.le_of_ble_eq_true rfl) ?_
  intro p e s m args below meth c C hr hlk hnm hsz hK H locs hE ls hl
  have C : CallFix p m c b_Journal_hasFailure 1 s args Wl R_Journal := C
  have hl : lv_has ls 1 [(0, .ref (ad 18))] := hl
  refine lv_aload_n C.1 C.2.1 d_Journal_hasFailure_0 rfl (lv_at hl 0 rfl) ?_
  refine gf_Journal_31 (x := (g_fa J)) C hK hE rfl d_Journal_hasFailure_1 ?_
  exact E_zret C hr hlk () (by omega) hE rfl d_Journal_hasFailure_4

set_option maxHeartbeats 4000000 in
set_option maxRecDepth 100000 in
theorem c_Journal_roundsWith (l : Launch) (D : va_G) (cI cZ cQ : ClassId) (ad : Nat → Nat) (sz : Nat) (T : TSt) (M : MSt) (Cc : CSt) (J : JSt) (Rr : RSt) (Ls : LSt) (status : Int) (h_status : 0 ≤ status ∧ status < 3) : Met l y_Journal_roundsWith (Cond.code y_Journal_roundsWith b_Journal_roundsWith 2 (some .int) :: Wl) { frames := 0, cells := 0, slots := 0, locals := 0 } (PE D vwCl (tyE cI cZ cQ) (wE cI cZ cQ ad T M Cc J Rr Ls) sz [.ref (ad 18), .int (zI status)]) (QEi D vwCl (adL ad) sz (fun (r : Int32) (_ : Unit) => r = zI ((g_rbs J) status)) (fun (_ : Unit) => (wE cI cZ cQ ad T M Cc J Rr Ls))) 0 0 (AE (adL ad) sz) := by
  refine E_start (by decide) wE_L (Nat.le_of_ble_eq_true rfl) ?_
  intro p e s m args below meth c C hr hlk hnm hsz hK H locs hE ls hl
  have C : CallFix p m c b_Journal_roundsWith 2 s args Wl R_Journal := C
  have hl : lv_has ls 2 [(0, .ref (ad 18)), (1, .int (zI status))] := hl
  refine lv_aload_n C.1 C.2.1 d_Journal_roundsWith_0 rfl (lv_at hl 0 rfl) ?_
  refine gf_Journal_18 C hK hE d_Journal_roundsWith_1 ?_
  refine lv_iload_n C.1 C.2.1 d_Journal_roundsWith_4 rfl (lv_at hl 1 rfl) ?_
  refine al_rbs (x := ((g_rbs J) status)) C hK hE (by omega) rfl d_Journal_roundsWith_5 ?_
  exact E_iret C hr hlk () hE rfl d_Journal_roundsWith_6

def f_Journal_isKept (J : JSt) (event : Int) : Int := (f_Engine_isWithin event 0 ((if 150 < (g_ev J) then 150 else (g_ev J)) - 1))
set_option maxHeartbeats 4000000 in
set_option maxRecDepth 100000 in
theorem c_Journal_isKept (l : Launch) (D : va_G) (cI cZ cQ : ClassId) (ad : Nat → Nat) (sz : Nat) (T : TSt) (M : MSt) (Cc : CSt) (J : JSt) (Rr : RSt) (Ls : LSt) (event : Int) (h_event : -2147483648 ≤ event ∧ event < 2147483648) (hev : 0 ≤ g_ev J ∧ g_ev J < 1000000000) : Met l y_Journal_isKept (Cond.code y_Journal_isKept b_Journal_isKept 2 (some .boolean) :: Wl) { frames := 1, cells := 0, slots := 0, locals := 22 } (PE D vwCl (tyE cI cZ cQ) (wE cI cZ cQ ad T M Cc J Rr Ls) sz [.ref (ad 18), .int (zI event)]) (QEi D vwCl (adL ad) sz (fun (r : Int32) (_ : Unit) => r = zI (f_Journal_isKept J event)) (fun (_ : Unit) => (wE cI cZ cQ ad T M Cc J Rr Ls))) 0 0 (AE (adL ad) sz) := by
  refine E_start (by decide) wE_L (Nat.le_of_ble_eq_true rfl) ?_
  intro p e s m args below meth c C hr hlk hnm hsz hK H locs hE ls hl
  have C : CallFix p m c b_Journal_isKept 2 s args Wl R_Journal := C
  have hl : lv_has ls 2 [(0, .ref (ad 18)), (1, .int (zI event))] := hl
  refine lv_iload_n C.1 C.2.1 d_Journal_isKept_0 rfl (lv_at hl 1 rfl) ?_
  refine zx_iconst C.1 C.2.1 d_Journal_isKept_1 ?_
  refine lv_aload_n C.1 C.2.1 d_Journal_isKept_2 rfl (lv_at hl 0 rfl) ?_
  refine gf_Journal_21 (x := (g_ev J)) C hK hE rfl d_Journal_isKept_3 ?_
  refine zx_sipush C.1 C.2.1 d_Journal_isKept_6 (by decide) ?_
  refine zx_mmin C hl.1 cw_Journal_67 (Nat.le_of_ble_eq_true rfl) (Nat.le_of_ble_eq_true rfl) (Nat.le_of_ble_eq_true rfl) (Nat.le_of_ble_eq_true rfl) (by omega) d_Journal_isKept_9 ?_
  refine zx_iconst C.1 C.2.1 d_Journal_isKept_12 ?_
  refine zx_isub C.1 C.2.1 d_Journal_isKept_13 ?_
  refine E_calli hsz hE (va_runSN (As := [.int (zI event), .int (zI 0), .int (zI ((if 150 < (g_ev J) then 150 else (g_ev J)) - 1))]) (rest := []) C (c_Engine_isWithin l D cI cZ cQ H.size (wE cI cZ cQ ad T M Cc J Rr Ls) (adL ad) wE_L event 0 ((if 150 < (g_ev J) then 150 else (g_ev J)) - 1) (show -2147483648 ≤ event ∧ event < 2147483648 by omega) (show -2147483648 ≤ 0 ∧ 0 < 2147483648 by omega) (show -2147483648 ≤ ((if 150 < (g_ev J) then 150 else (g_ev J)) - 1) ∧ ((if 150 < (g_ev J) then 150 else (g_ev J)) - 1) < 2147483648 by omega)) (E_cwN C.2.2.2.2 lw_good hK.2.2.1 cn_Engine_isWithin rfl rfl hd_Engine_isWithin ⟨Nat.le_of_ble_eq_true rfl, Nat.le_of_ble_eq_true rfl⟩) (E_preS hK hE) rfl rfl hl.1 rfl (lv_room (Nat.le_of_ble_eq_true rfl)) d_Journal_isKept_14 ⟨Nat.zero_le _, Nat.zero_le _⟩) (fun r u H locs hw hE => ?_)
  subst hw
  have hb_1 := f_Engine_isWithin_rg event 0 ((if 150 < (g_ev J) then 150 else (g_ev J)) - 1)
  rw [show f_Journal_isKept J event = (f_Engine_isWithin event 0 ((if 150 < (g_ev J) then 150 else (g_ev J)) - 1)) from rfl]
  exact E_zret C hr hlk () (by omega) hE rfl d_Journal_isKept_17
theorem f_Journal_isKept_rg (J : JSt) (event : Int) : f_Journal_isKept J event = 0 ∨ f_Journal_isKept J event = 1 := by
  unfold f_Journal_isKept
  repeat' (first | split | exact Or.inl rfl | exact Or.inr rfl | exact f_Engine_isWithin_rg _ _ _ | exact f_Choice_suits_rg _ _ _ | exact f_Tree_isFull_rg _ | exact f_Tree_isNode_rg _ _ | exact f_Tree_isContainer_rg _ _ | exact f_Tree_mayHave_rg _ _ _ | exact f_Troubles_isEmpty_rg _ _)

theorem isKept_t {J : JSt} {event : Int} (h : ¬ f_Journal_isKept J event = 0) : 0 ≤ event ∧ event < 150 ∧ event < g_ev J := by
  have h1 := isWithin_t h
  split at h1 <;> omega
def f_Journal_fieldOf (J : JSt) (event : Int) (what : Int) : Int := if (f_Journal_isKept J event) = 0 then (-1000) else if (f_Engine_isWithin what 0 7) = 0 then (-1000) else ((g_fld J) ((event * 8) + what))
set_option maxHeartbeats 4000000 in
set_option maxRecDepth 100000 in
theorem c_Journal_fieldOf (l : Launch) (D : va_G) (cI cZ cQ : ClassId) (ad : Nat → Nat) (sz : Nat) (T : TSt) (M : MSt) (Cc : CSt) (J : JSt) (Rr : RSt) (Ls : LSt) (event : Int) (what : Int) (h_event : -2147483648 ≤ event ∧ event < 2147483648) (h_what : -2147483648 ≤ what ∧ what < 2147483648) (hev : 0 ≤ g_ev J ∧ g_ev J < 1000000000) : Met l y_Journal_fieldOf (Cond.code y_Journal_fieldOf b_Journal_fieldOf 3 (some .int) :: Wl) { frames := 2, cells := 0, slots := 0, locals := 43 } (PE D vwCl (tyE cI cZ cQ) (wE cI cZ cQ ad T M Cc J Rr Ls) sz [.ref (ad 18), .int (zI event), .int (zI what)]) (QEi D vwCl (adL ad) sz (fun (r : Int32) (_ : Unit) => r = zI (f_Journal_fieldOf J event what)) (fun (_ : Unit) => (wE cI cZ cQ ad T M Cc J Rr Ls))) 0 0 (AE (adL ad) sz) := by
  refine E_start (by decide) wE_L (Nat.le_of_ble_eq_true rfl) ?_
  intro p e s m args below meth c C hr hlk hnm hsz hK H locs hE ls hl
  have C : CallFix p m c b_Journal_fieldOf 3 s args Wl R_Journal := C
  have hl : lv_has ls 3 [(0, .ref (ad 18)), (1, .int (zI event)), (2, .int (zI what))] := hl
  refine lv_aload_n C.1 C.2.1 d_Journal_fieldOf_0 rfl (lv_at hl 0 rfl) ?_
  refine lv_iload_n C.1 C.2.1 d_Journal_fieldOf_1 rfl (lv_at hl 1 rfl) ?_
  refine E_calli hsz hE (va_runV (As := [.int (zI event)]) (rest := []) C (c_Journal_isKept l D cI cZ cQ ad H.size T M Cc J Rr Ls event (show -2147483648 ≤ event ∧ event < 2147483648 by omega) (show 0 ≤ (g_ev J) ∧ (g_ev J) < 1000000000 by omega)) (E_cwV C.2.2.2.2 lw_good cw_Journal_73 rfl rfl hd_Journal_isKept ⟨Nat.le_of_ble_eq_true rfl, Nat.le_of_ble_eq_true rfl⟩) (E_preV hK hE (q := (R_Journal, F_Journal, 7)) (ci := 1) (q0 := 18) rfl rfl) rfl rfl hl.1 rfl (lv_room (Nat.le_of_ble_eq_true rfl)) d_Journal_fieldOf_2 ⟨Nat.zero_le _, Nat.zero_le _⟩) (fun r u H locs hw hE => ?_)
  subst hw
  have hb_1 := f_Journal_isKept_rg J event
  refine zx_if_eq (tgt := 18) C.1 C.2.1 d_Journal_fieldOf_5 (by decide) (by omega) (fun c_2 => ?_) (fun c_2 => ?_)
  · refine zx_sipush C.1 C.2.1 d_Journal_fieldOf_18 (by decide) ?_
    rw [show f_Journal_fieldOf J event what = (-1000) from by simp only [f_Journal_fieldOf, if_pos c_2]]
    exact E_iret C hr hlk () hE rfl d_Journal_fieldOf_21
  · have hn_3 := isKept_t c_2
    refine lv_iload_n C.1 C.2.1 d_Journal_fieldOf_8 rfl (lv_at hl 2 rfl) ?_
    refine zx_iconst C.1 C.2.1 d_Journal_fieldOf_9 ?_
    refine zx_bipush C.1 C.2.1 d_Journal_fieldOf_10 (by decide) ?_
    refine E_calli hsz hE (va_runSN (As := [.int (zI what), .int (zI 0), .int (zI 7)]) (rest := []) C (c_Engine_isWithin l D cI cZ cQ H.size (wE cI cZ cQ ad T M Cc J Rr Ls) (adL ad) wE_L what 0 7 (show -2147483648 ≤ what ∧ what < 2147483648 by omega) (show -2147483648 ≤ 0 ∧ 0 < 2147483648 by omega) (show -2147483648 ≤ 7 ∧ 7 < 2147483648 by omega)) (E_cwN C.2.2.2.2 lw_good hK.2.2.1 cn_Engine_isWithin rfl rfl hd_Engine_isWithin ⟨Nat.le_of_ble_eq_true rfl, Nat.le_of_ble_eq_true rfl⟩) (E_preS hK hE) rfl rfl hl.1 rfl (lv_room (Nat.le_of_ble_eq_true rfl)) d_Journal_fieldOf_12 ⟨Nat.zero_le _, Nat.zero_le _⟩) (fun r u H locs hw hE => ?_)
    subst hw
    have hb_4 := f_Engine_isWithin_rg what 0 7
    refine zx_if_ne (tgt := 22) C.1 C.2.1 d_Journal_fieldOf_15 (by decide) (by omega) (fun c_5 => ?_) (fun c_5 => ?_)
    · have hn_6 := isWithin_t c_5
      refine lv_aload_n C.1 C.2.1 d_Journal_fieldOf_22 rfl (lv_at hl 0 rfl) ?_
      refine gf_Journal_9 C hK hE d_Journal_fieldOf_23 ?_
      refine lv_iload_n C.1 C.2.1 d_Journal_fieldOf_26 rfl (lv_at hl 1 rfl) ?_
      refine zx_bipush C.1 C.2.1 d_Journal_fieldOf_27 (by decide) ?_
      refine zx_imul C.1 C.2.1 d_Journal_fieldOf_29 ?_
      refine lv_iload_n C.1 C.2.1 d_Journal_fieldOf_30 rfl (lv_at hl 2 rfl) ?_
      refine zx_iadd C.1 C.2.1 d_Journal_fieldOf_31 ?_
      refine al_fld (x := ((g_fld J) ((event * 8) + what))) C hK hE (by omega) rfl d_Journal_fieldOf_32 ?_
      rw [show f_Journal_fieldOf J event what = ((g_fld J) ((event * 8) + what)) from by simp only [f_Journal_fieldOf, if_neg c_2, if_neg c_5]]
      exact E_iret C hr hlk () hE rfl d_Journal_fieldOf_33
    · have hn_7 := isWithin_f c_5
      refine zx_sipush C.1 C.2.1 d_Journal_fieldOf_18 (by decide) ?_
      rw [show f_Journal_fieldOf J event what = (-1000) from by simp only [f_Journal_fieldOf, if_neg c_2, if_pos c_5]]
      exact E_iret C hr hlk () hE rfl d_Journal_fieldOf_21

def f_Journal_codeOf (J : JSt) (event : Int) (k : Int) : Int := if (f_Journal_isKept J event) = 0 then (-1000) else if (f_Engine_isWithin k 0 3) = 0 then (-1000) else ((g_jco J) ((event * 4) + k))
set_option maxHeartbeats 4000000 in
set_option maxRecDepth 100000 in
theorem c_Journal_codeOf (l : Launch) (D : va_G) (cI cZ cQ : ClassId) (ad : Nat → Nat) (sz : Nat) (T : TSt) (M : MSt) (Cc : CSt) (J : JSt) (Rr : RSt) (Ls : LSt) (event : Int) (k : Int) (h_event : -2147483648 ≤ event ∧ event < 2147483648) (h_k : -2147483648 ≤ k ∧ k < 2147483648) (hev : 0 ≤ g_ev J ∧ g_ev J < 1000000000) : Met l y_Journal_codeOf (Cond.code y_Journal_codeOf b_Journal_codeOf 3 (some .int) :: Wl) { frames := 2, cells := 0, slots := 0, locals := 43 } (PE D vwCl (tyE cI cZ cQ) (wE cI cZ cQ ad T M Cc J Rr Ls) sz [.ref (ad 18), .int (zI event), .int (zI k)]) (QEi D vwCl (adL ad) sz (fun (r : Int32) (_ : Unit) => r = zI (f_Journal_codeOf J event k)) (fun (_ : Unit) => (wE cI cZ cQ ad T M Cc J Rr Ls))) 0 0 (AE (adL ad) sz) := by
  refine E_start (by decide) wE_L (Nat.le_of_ble_eq_true rfl) ?_
  intro p e s m args below meth c C hr hlk hnm hsz hK H locs hE ls hl
  have C : CallFix p m c b_Journal_codeOf 3 s args Wl R_Journal := C
  have hl : lv_has ls 3 [(0, .ref (ad 18)), (1, .int (zI event)), (2, .int (zI k))] := hl
  refine lv_aload_n C.1 C.2.1 d_Journal_codeOf_0 rfl (lv_at hl 0 rfl) ?_
  refine lv_iload_n C.1 C.2.1 d_Journal_codeOf_1 rfl (lv_at hl 1 rfl) ?_
  refine E_calli hsz hE (va_runV (As := [.int (zI event)]) (rest := []) C (c_Journal_isKept l D cI cZ cQ ad H.size T M Cc J Rr Ls event (show -2147483648 ≤ event ∧ event < 2147483648 by omega) (show 0 ≤ (g_ev J) ∧ (g_ev J) < 1000000000 by omega)) (E_cwV C.2.2.2.2 lw_good cw_Journal_73 rfl rfl hd_Journal_isKept ⟨Nat.le_of_ble_eq_true rfl, Nat.le_of_ble_eq_true rfl⟩) (E_preV hK hE (q := (R_Journal, F_Journal, 7)) (ci := 1) (q0 := 18) rfl rfl) rfl rfl hl.1 rfl (lv_room (Nat.le_of_ble_eq_true rfl)) d_Journal_codeOf_2 ⟨Nat.zero_le _, Nat.zero_le _⟩) (fun r u H locs hw hE => ?_)
  subst hw
  have hb_1 := f_Journal_isKept_rg J event
  refine zx_if_eq (tgt := 17) C.1 C.2.1 d_Journal_codeOf_5 (by decide) (by omega) (fun c_2 => ?_) (fun c_2 => ?_)
  · refine zx_sipush C.1 C.2.1 d_Journal_codeOf_17 (by decide) ?_
    rw [show f_Journal_codeOf J event k = (-1000) from by simp only [f_Journal_codeOf, if_pos c_2]]
    exact E_iret C hr hlk () hE rfl d_Journal_codeOf_20
  · have hn_3 := isKept_t c_2
    refine lv_iload_n C.1 C.2.1 d_Journal_codeOf_8 rfl (lv_at hl 2 rfl) ?_
    refine zx_iconst C.1 C.2.1 d_Journal_codeOf_9 ?_
    refine zx_iconst C.1 C.2.1 d_Journal_codeOf_10 ?_
    refine E_calli hsz hE (va_runSN (As := [.int (zI k), .int (zI 0), .int (zI 3)]) (rest := []) C (c_Engine_isWithin l D cI cZ cQ H.size (wE cI cZ cQ ad T M Cc J Rr Ls) (adL ad) wE_L k 0 3 (show -2147483648 ≤ k ∧ k < 2147483648 by omega) (show -2147483648 ≤ 0 ∧ 0 < 2147483648 by omega) (show -2147483648 ≤ 3 ∧ 3 < 2147483648 by omega)) (E_cwN C.2.2.2.2 lw_good hK.2.2.1 cn_Engine_isWithin rfl rfl hd_Engine_isWithin ⟨Nat.le_of_ble_eq_true rfl, Nat.le_of_ble_eq_true rfl⟩) (E_preS hK hE) rfl rfl hl.1 rfl (lv_room (Nat.le_of_ble_eq_true rfl)) d_Journal_codeOf_11 ⟨Nat.zero_le _, Nat.zero_le _⟩) (fun r u H locs hw hE => ?_)
    subst hw
    have hb_4 := f_Engine_isWithin_rg k 0 3
    refine zx_if_ne (tgt := 21) C.1 C.2.1 d_Journal_codeOf_14 (by decide) (by omega) (fun c_5 => ?_) (fun c_5 => ?_)
    · have hn_6 := isWithin_t c_5
      refine lv_aload_n C.1 C.2.1 d_Journal_codeOf_21 rfl (lv_at hl 0 rfl) ?_
      refine gf_Journal_15 C hK hE d_Journal_codeOf_22 ?_
      refine lv_iload_n C.1 C.2.1 d_Journal_codeOf_25 rfl (lv_at hl 1 rfl) ?_
      refine zx_iconst C.1 C.2.1 d_Journal_codeOf_26 ?_
      refine zx_imul C.1 C.2.1 d_Journal_codeOf_27 ?_
      refine lv_iload_n C.1 C.2.1 d_Journal_codeOf_28 rfl (lv_at hl 2 rfl) ?_
      refine zx_iadd C.1 C.2.1 d_Journal_codeOf_29 ?_
      refine al_jco (x := ((g_jco J) ((event * 4) + k))) C hK hE (by omega) rfl d_Journal_codeOf_30 ?_
      rw [show f_Journal_codeOf J event k = ((g_jco J) ((event * 4) + k)) from by simp only [f_Journal_codeOf, if_neg c_2, if_neg c_5]]
      exact E_iret C hr hlk () hE rfl d_Journal_codeOf_31
    · have hn_7 := isWithin_f c_5
      refine zx_sipush C.1 C.2.1 d_Journal_codeOf_17 (by decide) ?_
      rw [show f_Journal_codeOf J event k = (-1000) from by simp only [f_Journal_codeOf, if_neg c_2, if_pos c_5]]
      exact E_iret C hr hlk () hE rfl d_Journal_codeOf_20

def f_Journal_clear (J : JSt) : JSt := match J with | (fld, jco, rbs, ev, sk, tc, fa) => (fld, jco, (iup (iup (iup rbs 0 0) 1 0) 2 0), 0, 0, 0, 0)
set_option maxHeartbeats 4000000 in
set_option maxRecDepth 100000 in
theorem c_Journal_clear (l : Launch) (D : va_G) (cI cZ cQ : ClassId) (ad : Nat → Nat) (sz : Nat) (T : TSt) (M : MSt) (Cc : CSt) (J : JSt) (Rr : RSt) (Ls : LSt)   : Met l y_Journal_clear (Cond.code y_Journal_clear b_Journal_clear 2 none :: Wl) { frames := 0, cells := 0, slots := 0, locals := 0 } (PE D vwCl (tyE cI cZ cQ) (wE cI cZ cQ ad T M Cc J Rr Ls) sz [.ref (ad 18)]) (QEv D vwCl (adL ad) sz (fun (_ : Unit) => True) (fun (_ : Unit) => (wE cI cZ cQ ad T M Cc (f_Journal_clear J) Rr Ls))) 0 0 (AE (adL ad) sz) := by
  obtain ⟨fld, jco, rbs, ev, sk, tc, fa⟩ := J
  refine E_start (by decide) wE_L (Nat.le_of_ble_eq_true rfl) ?_
  intro p e s m args below meth c C hr hlk hnm hsz hK H locs hE ls hl
  have C : CallFix p m c b_Journal_clear 2 s args Wl R_Journal := C
  have hl : lv_has ls 2 [(0, .ref (ad 18))] := hl
  refine lv_aload_n C.1 C.2.1 d_Journal_clear_0 rfl (lv_at hl 0 rfl) ?_
  refine zx_iconst C.1 C.2.1 d_Journal_clear_1 ?_
  refine pf_Journal_21 C hK hE d_Journal_clear_2 (fun H locs hE => ?_)
  have hE : EW D vwCl (AE (adL ad) sz) (wE cI cZ cQ ad T M Cc (fld, jco, rbs, 0, sk, tc, fa) Rr Ls) s.heap H locs := hE
  refine lv_aload_n C.1 C.2.1 d_Journal_clear_5 rfl (lv_at hl 0 rfl) ?_
  refine zx_iconst C.1 C.2.1 d_Journal_clear_6 ?_
  refine pf_Journal_25 C hK hE d_Journal_clear_7 (fun H locs hE => ?_)
  have hE : EW D vwCl (AE (adL ad) sz) (wE cI cZ cQ ad T M Cc (fld, jco, rbs, 0, 0, tc, fa) Rr Ls) s.heap H locs := hE
  refine lv_aload_n C.1 C.2.1 d_Journal_clear_10 rfl (lv_at hl 0 rfl) ?_
  refine zx_iconst C.1 C.2.1 d_Journal_clear_11 ?_
  refine pf_Journal_28 C hK hE d_Journal_clear_12 (fun H locs hE => ?_)
  have hE : EW D vwCl (AE (adL ad) sz) (wE cI cZ cQ ad T M Cc (fld, jco, rbs, 0, 0, 0, fa) Rr Ls) s.heap H locs := hE
  refine lv_aload_n C.1 C.2.1 d_Journal_clear_15 rfl (lv_at hl 0 rfl) ?_
  refine zx_iconst C.1 C.2.1 d_Journal_clear_16 ?_
  refine pf_Journal_31 C hK hE (by omega) d_Journal_clear_17 (fun H locs hE => ?_)
  have hE : EW D vwCl (AE (adL ad) sz) (wE cI cZ cQ ad T M Cc (fld, jco, rbs, 0, 0, 0, 0) Rr Ls) s.heap H locs := hE
  refine zx_iconst C.1 C.2.1 d_Journal_clear_20 ?_
  refine lv_istore_n (lv' := [(1, .int (zI 0)), (0, .ref (ad 18))]) C.1 C.2.1 d_Journal_clear_21 rfl hl (by decide) rfl (fun ls hl => ?_)
  refine lv_iload_n C.1 C.2.1 d_Journal_clear_22 rfl (lv_at hl 0 rfl) ?_
  refine zx_iconst C.1 C.2.1 d_Journal_clear_23 ?_
  refine zx_icmp_ge (tgt := 40) C.1 C.2.1 d_Journal_clear_24 (by decide) (by decide) (fun c_1 => absurd c_1 (by decide)) (fun _ => ?_)
  refine lv_aload_n C.1 C.2.1 d_Journal_clear_27 rfl (lv_at hl 1 rfl) ?_
  refine gf_Journal_18 C hK hE d_Journal_clear_28 ?_
  refine lv_iload_n C.1 C.2.1 d_Journal_clear_31 rfl (lv_at hl 0 rfl) ?_
  refine zx_iconst C.1 C.2.1 d_Journal_clear_32 ?_
  refine as_rbs C hK hE (by omega) d_Journal_clear_33 (fun H locs hE => ?_)
  have hE : EW D vwCl (AE (adL ad) sz) (wE cI cZ cQ ad T M Cc (fld, jco, (iup rbs 0 0), 0, 0, 0, 0) Rr Ls) s.heap H locs := hE
  refine zx_iinc (lv' := [(1, .int (zI (0 + 1))), (0, .ref (ad 18))]) C.1 C.2.1 d_Journal_clear_34 hl (k := 0) rfl (by decide) rfl (fun ls hl => ?_)
  have hl : lv_has ls 2 [(1, .int (zI 1)), (0, .ref (ad 18))] := hl
  refine lv_goto (tgt := 22) C.1 C.2.1 d_Journal_clear_37 (by decide) ?_
  refine lv_iload_n C.1 C.2.1 d_Journal_clear_22 rfl (lv_at hl 0 rfl) ?_
  refine zx_iconst C.1 C.2.1 d_Journal_clear_23 ?_
  refine zx_icmp_ge (tgt := 40) C.1 C.2.1 d_Journal_clear_24 (by decide) (by decide) (fun c_2 => absurd c_2 (by decide)) (fun _ => ?_)
  refine lv_aload_n C.1 C.2.1 d_Journal_clear_27 rfl (lv_at hl 1 rfl) ?_
  refine gf_Journal_18 C hK hE d_Journal_clear_28 ?_
  refine lv_iload_n C.1 C.2.1 d_Journal_clear_31 rfl (lv_at hl 0 rfl) ?_
  refine zx_iconst C.1 C.2.1 d_Journal_clear_32 ?_
  refine as_rbs C hK hE (by omega) d_Journal_clear_33 (fun H locs hE => ?_)
  have hE : EW D vwCl (AE (adL ad) sz) (wE cI cZ cQ ad T M Cc (fld, jco, (iup (iup rbs 0 0) 1 0), 0, 0, 0, 0) Rr Ls) s.heap H locs := hE
  refine zx_iinc (lv' := [(1, .int (zI (1 + 1))), (0, .ref (ad 18))]) C.1 C.2.1 d_Journal_clear_34 hl (k := 0) rfl (by decide) rfl (fun ls hl => ?_)
  have hl : lv_has ls 2 [(1, .int (zI 2)), (0, .ref (ad 18))] := hl
  refine lv_goto (tgt := 22) C.1 C.2.1 d_Journal_clear_37 (by decide) ?_
  refine lv_iload_n C.1 C.2.1 d_Journal_clear_22 rfl (lv_at hl 0 rfl) ?_
  refine zx_iconst C.1 C.2.1 d_Journal_clear_23 ?_
  refine zx_icmp_ge (tgt := 40) C.1 C.2.1 d_Journal_clear_24 (by decide) (by decide) (fun c_3 => absurd c_3 (by decide)) (fun _ => ?_)
  refine lv_aload_n C.1 C.2.1 d_Journal_clear_27 rfl (lv_at hl 1 rfl) ?_
  refine gf_Journal_18 C hK hE d_Journal_clear_28 ?_
  refine lv_iload_n C.1 C.2.1 d_Journal_clear_31 rfl (lv_at hl 0 rfl) ?_
  refine zx_iconst C.1 C.2.1 d_Journal_clear_32 ?_
  refine as_rbs C hK hE (by omega) d_Journal_clear_33 (fun H locs hE => ?_)
  have hE : EW D vwCl (AE (adL ad) sz) (wE cI cZ cQ ad T M Cc (fld, jco, (iup (iup (iup rbs 0 0) 1 0) 2 0), 0, 0, 0, 0) Rr Ls) s.heap H locs := hE
  refine zx_iinc (lv' := [(1, .int (zI (2 + 1))), (0, .ref (ad 18))]) C.1 C.2.1 d_Journal_clear_34 hl (k := 0) rfl (by decide) rfl (fun ls hl => ?_)
  have hl : lv_has ls 2 [(1, .int (zI 3)), (0, .ref (ad 18))] := hl
  refine lv_goto (tgt := 22) C.1 C.2.1 d_Journal_clear_37 (by decide) ?_
  refine lv_iload_n C.1 C.2.1 d_Journal_clear_22 rfl (lv_at hl 0 rfl) ?_
  refine zx_iconst C.1 C.2.1 d_Journal_clear_23 ?_
  refine zx_icmp_ge (tgt := 40) C.1 C.2.1 d_Journal_clear_24 (by decide) (by decide) (fun _ => ?_) (fun c_4 => absurd c_4 (by decide))
  rw [show f_Journal_clear (fld, jco, rbs, ev, sk, tc, fa) = (fld, jco, (iup (iup (iup rbs 0 0) 1 0) 2 0), 0, 0, 0, 0) from rfl]
  exact E_vret C hr hlk () hE trivial d_Journal_clear_40

def f_Journal_writeEvent (J : JSt) (kind : Int) (node : Int) (round : Int) (time : Int) : JSt := match J with | (fld, jco, rbs, ev, sk, tc, fa) => if 150 ≤ ev then (fld, jco, rbs, (ev + 1), sk, tc, fa) else ((iup (iup (iup (iup (iup (iup (iup (iup fld ((ev * 8) + 0) kind) ((ev * 8) + 1) node) ((ev * 8) + 2) round) ((ev * 8) + 3) time) ((ev * 8) + 4) 0) ((ev * 8) + 5) 0) ((ev * 8) + 6) 0) ((ev * 8) + 7) 0), (iup (iup (iup (iup jco ((ev * 4) + 0) (-1000)) ((ev * 4) + 1) (-1000)) ((ev * 4) + 2) (-1000)) ((ev * 4) + 3) (-1000)), rbs, (ev + 1), sk, tc, fa)
set_option maxHeartbeats 4000000 in
set_option maxRecDepth 100000 in
theorem c_Journal_writeEvent (l : Launch) (D : va_G) (cI cZ cQ : ClassId) (ad : Nat → Nat) (sz : Nat) (T : TSt) (M : MSt) (Cc : CSt) (J : JSt) (Rr : RSt) (Ls : LSt) (kind : Int) (node : Int) (round : Int) (time : Int) (hev : 0 ≤ g_ev J ∧ g_ev J < 1000000000) : Met l y_Journal_writeEvent (Cond.code y_Journal_writeEvent b_Journal_writeEvent 7 none :: Wl) { frames := 0, cells := 0, slots := 0, locals := 0 } (PE D vwCl (tyE cI cZ cQ) (wE cI cZ cQ ad T M Cc J Rr Ls) sz [.ref (ad 18), .int (zI kind), .int (zI node), .int (zI round), .int (zI time)]) (QEv D vwCl (adL ad) sz (fun (_ : Unit) => True) (fun (_ : Unit) => (wE cI cZ cQ ad T M Cc (f_Journal_writeEvent J kind node round time) Rr Ls))) 0 0 (AE (adL ad) sz) := by
  obtain ⟨fld, jco, rbs, ev, sk, tc, fa⟩ := J
  simp only [g_fld, g_jco, g_rbs, g_ev, g_sk, g_tc, g_fa] at hev
  refine E_start (by decide) wE_L (Nat.le_of_ble_eq_true rfl) ?_
  intro p e s m args below meth c C hr hlk hnm hsz hK H locs hE ls hl
  have C : CallFix p m c b_Journal_writeEvent 7 s args Wl R_Journal := C
  have hl : lv_has ls 7 [(0, .ref (ad 18)), (1, .int (zI kind)), (2, .int (zI node)), (3, .int (zI round)), (4, .int (zI time))] := hl
  refine lv_aload_n C.1 C.2.1 d_Journal_writeEvent_0 rfl (lv_at hl 0 rfl) ?_
  refine gf_Journal_21 (x := ev) C hK hE rfl d_Journal_writeEvent_1 ?_
  refine zx_sipush C.1 C.2.1 d_Journal_writeEvent_4 (by decide) ?_
  refine zx_icmp_ge (tgt := 119) C.1 C.2.1 d_Journal_writeEvent_7 (by decide) (by omega) (fun c_1 => ?_) (fun c_1 => ?_)
  · refine lv_aload_n C.1 C.2.1 d_Journal_writeEvent_119 rfl (lv_at hl 0 rfl) ?_
    refine lv_dup C.1 C.2.1 d_Journal_writeEvent_120 rfl ?_
    refine gf_Journal_21 (x := ev) C hK hE rfl d_Journal_writeEvent_121 ?_
    refine zx_iconst C.1 C.2.1 d_Journal_writeEvent_124 ?_
    refine zx_iadd C.1 C.2.1 d_Journal_writeEvent_125 ?_
    refine pf_Journal_21 C hK hE d_Journal_writeEvent_126 (fun H locs hE => ?_)
    have hE : EW D vwCl (AE (adL ad) sz) (wE cI cZ cQ ad T M Cc (fld, jco, rbs, (ev + 1), sk, tc, fa) Rr Ls) s.heap H locs := hE
    rw [show f_Journal_writeEvent (fld, jco, rbs, ev, sk, tc, fa) kind node round time = (fld, jco, rbs, (ev + 1), sk, tc, fa) from by simp only [f_Journal_writeEvent, if_pos c_1]]
    exact E_vret C hr hlk () hE trivial d_Journal_writeEvent_129
  · refine lv_aload_n C.1 C.2.1 d_Journal_writeEvent_10 rfl (lv_at hl 0 rfl) ?_
    refine gf_Journal_21 (x := ev) C hK hE rfl d_Journal_writeEvent_11 ?_
    refine zx_bipush C.1 C.2.1 d_Journal_writeEvent_14 (by decide) ?_
    refine zx_imul C.1 C.2.1 d_Journal_writeEvent_16 ?_
    refine lv_istore (lv' := [(5, .int (zI (ev * 8))), (0, .ref (ad 18)), (1, .int (zI kind)), (2, .int (zI node)), (3, .int (zI round)), (4, .int (zI time))]) C.1 C.2.1 d_Journal_writeEvent_17 hl (by decide) rfl (fun ls hl => ?_)
    refine lv_aload_n C.1 C.2.1 d_Journal_writeEvent_19 rfl (lv_at hl 1 rfl) ?_
    refine gf_Journal_9 C hK hE d_Journal_writeEvent_20 ?_
    refine lv_iload C.1 C.2.1 d_Journal_writeEvent_23 (lv_at hl 0 rfl) ?_
    refine zx_iconst C.1 C.2.1 d_Journal_writeEvent_25 ?_
    refine zx_iadd C.1 C.2.1 d_Journal_writeEvent_26 ?_
    refine lv_iload_n C.1 C.2.1 d_Journal_writeEvent_27 rfl (lv_at hl 2 rfl) ?_
    refine as_fld C hK hE (by omega) d_Journal_writeEvent_28 (fun H locs hE => ?_)
    have hE : EW D vwCl (AE (adL ad) sz) (wE cI cZ cQ ad T M Cc ((iup fld ((ev * 8) + 0) kind), jco, rbs, ev, sk, tc, fa) Rr Ls) s.heap H locs := hE
    refine lv_aload_n C.1 C.2.1 d_Journal_writeEvent_29 rfl (lv_at hl 1 rfl) ?_
    refine gf_Journal_9 C hK hE d_Journal_writeEvent_30 ?_
    refine lv_iload C.1 C.2.1 d_Journal_writeEvent_33 (lv_at hl 0 rfl) ?_
    refine zx_iconst C.1 C.2.1 d_Journal_writeEvent_35 ?_
    refine zx_iadd C.1 C.2.1 d_Journal_writeEvent_36 ?_
    refine lv_iload_n C.1 C.2.1 d_Journal_writeEvent_37 rfl (lv_at hl 3 rfl) ?_
    refine as_fld C hK hE (by omega) d_Journal_writeEvent_38 (fun H locs hE => ?_)
    have hE : EW D vwCl (AE (adL ad) sz) (wE cI cZ cQ ad T M Cc ((iup (iup fld ((ev * 8) + 0) kind) ((ev * 8) + 1) node), jco, rbs, ev, sk, tc, fa) Rr Ls) s.heap H locs := hE
    refine lv_aload_n C.1 C.2.1 d_Journal_writeEvent_39 rfl (lv_at hl 1 rfl) ?_
    refine gf_Journal_9 C hK hE d_Journal_writeEvent_40 ?_
    refine lv_iload C.1 C.2.1 d_Journal_writeEvent_43 (lv_at hl 0 rfl) ?_
    refine zx_iconst C.1 C.2.1 d_Journal_writeEvent_45 ?_
    refine zx_iadd C.1 C.2.1 d_Journal_writeEvent_46 ?_
    refine lv_iload_n C.1 C.2.1 d_Journal_writeEvent_47 rfl (lv_at hl 4 rfl) ?_
    refine as_fld C hK hE (by omega) d_Journal_writeEvent_48 (fun H locs hE => ?_)
    have hE : EW D vwCl (AE (adL ad) sz) (wE cI cZ cQ ad T M Cc ((iup (iup (iup fld ((ev * 8) + 0) kind) ((ev * 8) + 1) node) ((ev * 8) + 2) round), jco, rbs, ev, sk, tc, fa) Rr Ls) s.heap H locs := hE
    refine lv_aload_n C.1 C.2.1 d_Journal_writeEvent_49 rfl (lv_at hl 1 rfl) ?_
    refine gf_Journal_9 C hK hE d_Journal_writeEvent_50 ?_
    refine lv_iload C.1 C.2.1 d_Journal_writeEvent_53 (lv_at hl 0 rfl) ?_
    refine zx_iconst C.1 C.2.1 d_Journal_writeEvent_55 ?_
    refine zx_iadd C.1 C.2.1 d_Journal_writeEvent_56 ?_
    refine lv_iload C.1 C.2.1 d_Journal_writeEvent_57 (lv_at hl 5 rfl) ?_
    refine as_fld C hK hE (by omega) d_Journal_writeEvent_59 (fun H locs hE => ?_)
    have hE : EW D vwCl (AE (adL ad) sz) (wE cI cZ cQ ad T M Cc ((iup (iup (iup (iup fld ((ev * 8) + 0) kind) ((ev * 8) + 1) node) ((ev * 8) + 2) round) ((ev * 8) + 3) time), jco, rbs, ev, sk, tc, fa) Rr Ls) s.heap H locs := hE
    refine zx_iconst C.1 C.2.1 d_Journal_writeEvent_60 ?_
    refine lv_istore (lv' := [(6, .int (zI 4)), (5, .int (zI (ev * 8))), (0, .ref (ad 18)), (1, .int (zI kind)), (2, .int (zI node)), (3, .int (zI round)), (4, .int (zI time))]) C.1 C.2.1 d_Journal_writeEvent_61 hl (by decide) rfl (fun ls hl => ?_)
    refine lv_iload C.1 C.2.1 d_Journal_writeEvent_63 (lv_at hl 0 rfl) ?_
    refine zx_bipush C.1 C.2.1 d_Journal_writeEvent_65 (by decide) ?_
    refine zx_icmp_ge (tgt := 87) C.1 C.2.1 d_Journal_writeEvent_67 (by decide) (by decide) (fun c_2 => absurd c_2 (by decide)) (fun _ => ?_)
    refine lv_aload_n C.1 C.2.1 d_Journal_writeEvent_70 rfl (lv_at hl 2 rfl) ?_
    refine gf_Journal_9 C hK hE d_Journal_writeEvent_71 ?_
    refine lv_iload C.1 C.2.1 d_Journal_writeEvent_74 (lv_at hl 1 rfl) ?_
    refine lv_iload C.1 C.2.1 d_Journal_writeEvent_76 (lv_at hl 0 rfl) ?_
    refine zx_iadd C.1 C.2.1 d_Journal_writeEvent_78 ?_
    refine zx_iconst C.1 C.2.1 d_Journal_writeEvent_79 ?_
    refine as_fld C hK hE (by omega) d_Journal_writeEvent_80 (fun H locs hE => ?_)
    have hE : EW D vwCl (AE (adL ad) sz) (wE cI cZ cQ ad T M Cc ((iup (iup (iup (iup (iup fld ((ev * 8) + 0) kind) ((ev * 8) + 1) node) ((ev * 8) + 2) round) ((ev * 8) + 3) time) ((ev * 8) + 4) 0), jco, rbs, ev, sk, tc, fa) Rr Ls) s.heap H locs := hE
    refine zx_iinc (lv' := [(6, .int (zI (4 + 1))), (5, .int (zI (ev * 8))), (0, .ref (ad 18)), (1, .int (zI kind)), (2, .int (zI node)), (3, .int (zI round)), (4, .int (zI time))]) C.1 C.2.1 d_Journal_writeEvent_81 hl (k := 0) rfl (by decide) rfl (fun ls hl => ?_)
    have hl : lv_has ls 7 [(6, .int (zI 5)), (5, .int (zI (ev * 8))), (0, .ref (ad 18)), (1, .int (zI kind)), (2, .int (zI node)), (3, .int (zI round)), (4, .int (zI time))] := hl
    refine lv_goto (tgt := 63) C.1 C.2.1 d_Journal_writeEvent_84 (by decide) ?_
    refine lv_iload C.1 C.2.1 d_Journal_writeEvent_63 (lv_at hl 0 rfl) ?_
    refine zx_bipush C.1 C.2.1 d_Journal_writeEvent_65 (by decide) ?_
    refine zx_icmp_ge (tgt := 87) C.1 C.2.1 d_Journal_writeEvent_67 (by decide) (by decide) (fun c_3 => absurd c_3 (by decide)) (fun _ => ?_)
    refine lv_aload_n C.1 C.2.1 d_Journal_writeEvent_70 rfl (lv_at hl 2 rfl) ?_
    refine gf_Journal_9 C hK hE d_Journal_writeEvent_71 ?_
    refine lv_iload C.1 C.2.1 d_Journal_writeEvent_74 (lv_at hl 1 rfl) ?_
    refine lv_iload C.1 C.2.1 d_Journal_writeEvent_76 (lv_at hl 0 rfl) ?_
    refine zx_iadd C.1 C.2.1 d_Journal_writeEvent_78 ?_
    refine zx_iconst C.1 C.2.1 d_Journal_writeEvent_79 ?_
    refine as_fld C hK hE (by omega) d_Journal_writeEvent_80 (fun H locs hE => ?_)
    have hE : EW D vwCl (AE (adL ad) sz) (wE cI cZ cQ ad T M Cc ((iup (iup (iup (iup (iup (iup fld ((ev * 8) + 0) kind) ((ev * 8) + 1) node) ((ev * 8) + 2) round) ((ev * 8) + 3) time) ((ev * 8) + 4) 0) ((ev * 8) + 5) 0), jco, rbs, ev, sk, tc, fa) Rr Ls) s.heap H locs := hE
    refine zx_iinc (lv' := [(6, .int (zI (5 + 1))), (5, .int (zI (ev * 8))), (0, .ref (ad 18)), (1, .int (zI kind)), (2, .int (zI node)), (3, .int (zI round)), (4, .int (zI time))]) C.1 C.2.1 d_Journal_writeEvent_81 hl (k := 0) rfl (by decide) rfl (fun ls hl => ?_)
    have hl : lv_has ls 7 [(6, .int (zI 6)), (5, .int (zI (ev * 8))), (0, .ref (ad 18)), (1, .int (zI kind)), (2, .int (zI node)), (3, .int (zI round)), (4, .int (zI time))] := hl
    refine lv_goto (tgt := 63) C.1 C.2.1 d_Journal_writeEvent_84 (by decide) ?_
    refine lv_iload C.1 C.2.1 d_Journal_writeEvent_63 (lv_at hl 0 rfl) ?_
    refine zx_bipush C.1 C.2.1 d_Journal_writeEvent_65 (by decide) ?_
    refine zx_icmp_ge (tgt := 87) C.1 C.2.1 d_Journal_writeEvent_67 (by decide) (by decide) (fun c_4 => absurd c_4 (by decide)) (fun _ => ?_)
    refine lv_aload_n C.1 C.2.1 d_Journal_writeEvent_70 rfl (lv_at hl 2 rfl) ?_
    refine gf_Journal_9 C hK hE d_Journal_writeEvent_71 ?_
    refine lv_iload C.1 C.2.1 d_Journal_writeEvent_74 (lv_at hl 1 rfl) ?_
    refine lv_iload C.1 C.2.1 d_Journal_writeEvent_76 (lv_at hl 0 rfl) ?_
    refine zx_iadd C.1 C.2.1 d_Journal_writeEvent_78 ?_
    refine zx_iconst C.1 C.2.1 d_Journal_writeEvent_79 ?_
    refine as_fld C hK hE (by omega) d_Journal_writeEvent_80 (fun H locs hE => ?_)
    have hE : EW D vwCl (AE (adL ad) sz) (wE cI cZ cQ ad T M Cc ((iup (iup (iup (iup (iup (iup (iup fld ((ev * 8) + 0) kind) ((ev * 8) + 1) node) ((ev * 8) + 2) round) ((ev * 8) + 3) time) ((ev * 8) + 4) 0) ((ev * 8) + 5) 0) ((ev * 8) + 6) 0), jco, rbs, ev, sk, tc, fa) Rr Ls) s.heap H locs := hE
    refine zx_iinc (lv' := [(6, .int (zI (6 + 1))), (5, .int (zI (ev * 8))), (0, .ref (ad 18)), (1, .int (zI kind)), (2, .int (zI node)), (3, .int (zI round)), (4, .int (zI time))]) C.1 C.2.1 d_Journal_writeEvent_81 hl (k := 0) rfl (by decide) rfl (fun ls hl => ?_)
    have hl : lv_has ls 7 [(6, .int (zI 7)), (5, .int (zI (ev * 8))), (0, .ref (ad 18)), (1, .int (zI kind)), (2, .int (zI node)), (3, .int (zI round)), (4, .int (zI time))] := hl
    refine lv_goto (tgt := 63) C.1 C.2.1 d_Journal_writeEvent_84 (by decide) ?_
    refine lv_iload C.1 C.2.1 d_Journal_writeEvent_63 (lv_at hl 0 rfl) ?_
    refine zx_bipush C.1 C.2.1 d_Journal_writeEvent_65 (by decide) ?_
    refine zx_icmp_ge (tgt := 87) C.1 C.2.1 d_Journal_writeEvent_67 (by decide) (by decide) (fun c_5 => absurd c_5 (by decide)) (fun _ => ?_)
    refine lv_aload_n C.1 C.2.1 d_Journal_writeEvent_70 rfl (lv_at hl 2 rfl) ?_
    refine gf_Journal_9 C hK hE d_Journal_writeEvent_71 ?_
    refine lv_iload C.1 C.2.1 d_Journal_writeEvent_74 (lv_at hl 1 rfl) ?_
    refine lv_iload C.1 C.2.1 d_Journal_writeEvent_76 (lv_at hl 0 rfl) ?_
    refine zx_iadd C.1 C.2.1 d_Journal_writeEvent_78 ?_
    refine zx_iconst C.1 C.2.1 d_Journal_writeEvent_79 ?_
    refine as_fld C hK hE (by omega) d_Journal_writeEvent_80 (fun H locs hE => ?_)
    have hE : EW D vwCl (AE (adL ad) sz) (wE cI cZ cQ ad T M Cc ((iup (iup (iup (iup (iup (iup (iup (iup fld ((ev * 8) + 0) kind) ((ev * 8) + 1) node) ((ev * 8) + 2) round) ((ev * 8) + 3) time) ((ev * 8) + 4) 0) ((ev * 8) + 5) 0) ((ev * 8) + 6) 0) ((ev * 8) + 7) 0), jco, rbs, ev, sk, tc, fa) Rr Ls) s.heap H locs := hE
    refine zx_iinc (lv' := [(6, .int (zI (7 + 1))), (5, .int (zI (ev * 8))), (0, .ref (ad 18)), (1, .int (zI kind)), (2, .int (zI node)), (3, .int (zI round)), (4, .int (zI time))]) C.1 C.2.1 d_Journal_writeEvent_81 hl (k := 0) rfl (by decide) rfl (fun ls hl => ?_)
    have hl : lv_has ls 7 [(6, .int (zI 8)), (5, .int (zI (ev * 8))), (0, .ref (ad 18)), (1, .int (zI kind)), (2, .int (zI node)), (3, .int (zI round)), (4, .int (zI time))] := hl
    refine lv_goto (tgt := 63) C.1 C.2.1 d_Journal_writeEvent_84 (by decide) ?_
    refine lv_iload C.1 C.2.1 d_Journal_writeEvent_63 (lv_at hl 0 rfl) ?_
    refine zx_bipush C.1 C.2.1 d_Journal_writeEvent_65 (by decide) ?_
    refine zx_icmp_ge (tgt := 87) C.1 C.2.1 d_Journal_writeEvent_67 (by decide) (by decide) (fun _ => ?_) (fun c_6 => absurd c_6 (by decide))
    refine zx_iconst C.1 C.2.1 d_Journal_writeEvent_87 ?_
    refine lv_istore (lv' := [(6, .int (zI 0)), (5, .int (zI (ev * 8))), (0, .ref (ad 18)), (1, .int (zI kind)), (2, .int (zI node)), (3, .int (zI round)), (4, .int (zI time))]) C.1 C.2.1 d_Journal_writeEvent_88 hl (by decide) rfl (fun ls hl => ?_)
    refine lv_iload C.1 C.2.1 d_Journal_writeEvent_90 (lv_at hl 0 rfl) ?_
    refine zx_iconst C.1 C.2.1 d_Journal_writeEvent_92 ?_
    refine zx_icmp_ge (tgt := 119) C.1 C.2.1 d_Journal_writeEvent_93 (by decide) (by decide) (fun c_7 => absurd c_7 (by decide)) (fun _ => ?_)
    refine lv_aload_n C.1 C.2.1 d_Journal_writeEvent_96 rfl (lv_at hl 2 rfl) ?_
    refine gf_Journal_15 C hK hE d_Journal_writeEvent_97 ?_
    refine lv_aload_n C.1 C.2.1 d_Journal_writeEvent_100 rfl (lv_at hl 2 rfl) ?_
    refine gf_Journal_21 (x := ev) C hK hE rfl d_Journal_writeEvent_101 ?_
    refine zx_iconst C.1 C.2.1 d_Journal_writeEvent_104 ?_
    refine zx_imul C.1 C.2.1 d_Journal_writeEvent_105 ?_
    refine lv_iload C.1 C.2.1 d_Journal_writeEvent_106 (lv_at hl 0 rfl) ?_
    refine zx_iadd C.1 C.2.1 d_Journal_writeEvent_108 ?_
    refine zx_sipush C.1 C.2.1 d_Journal_writeEvent_109 (by decide) ?_
    refine as_jco C hK hE (by omega) d_Journal_writeEvent_112 (fun H locs hE => ?_)
    have hE : EW D vwCl (AE (adL ad) sz) (wE cI cZ cQ ad T M Cc ((iup (iup (iup (iup (iup (iup (iup (iup fld ((ev * 8) + 0) kind) ((ev * 8) + 1) node) ((ev * 8) + 2) round) ((ev * 8) + 3) time) ((ev * 8) + 4) 0) ((ev * 8) + 5) 0) ((ev * 8) + 6) 0) ((ev * 8) + 7) 0), (iup jco ((ev * 4) + 0) (-1000)), rbs, ev, sk, tc, fa) Rr Ls) s.heap H locs := hE
    refine zx_iinc (lv' := [(6, .int (zI (0 + 1))), (5, .int (zI (ev * 8))), (0, .ref (ad 18)), (1, .int (zI kind)), (2, .int (zI node)), (3, .int (zI round)), (4, .int (zI time))]) C.1 C.2.1 d_Journal_writeEvent_113 hl (k := 0) rfl (by decide) rfl (fun ls hl => ?_)
    have hl : lv_has ls 7 [(6, .int (zI 1)), (5, .int (zI (ev * 8))), (0, .ref (ad 18)), (1, .int (zI kind)), (2, .int (zI node)), (3, .int (zI round)), (4, .int (zI time))] := hl
    refine lv_goto (tgt := 90) C.1 C.2.1 d_Journal_writeEvent_116 (by decide) ?_
    refine lv_iload C.1 C.2.1 d_Journal_writeEvent_90 (lv_at hl 0 rfl) ?_
    refine zx_iconst C.1 C.2.1 d_Journal_writeEvent_92 ?_
    refine zx_icmp_ge (tgt := 119) C.1 C.2.1 d_Journal_writeEvent_93 (by decide) (by decide) (fun c_8 => absurd c_8 (by decide)) (fun _ => ?_)
    refine lv_aload_n C.1 C.2.1 d_Journal_writeEvent_96 rfl (lv_at hl 2 rfl) ?_
    refine gf_Journal_15 C hK hE d_Journal_writeEvent_97 ?_
    refine lv_aload_n C.1 C.2.1 d_Journal_writeEvent_100 rfl (lv_at hl 2 rfl) ?_
    refine gf_Journal_21 (x := ev) C hK hE rfl d_Journal_writeEvent_101 ?_
    refine zx_iconst C.1 C.2.1 d_Journal_writeEvent_104 ?_
    refine zx_imul C.1 C.2.1 d_Journal_writeEvent_105 ?_
    refine lv_iload C.1 C.2.1 d_Journal_writeEvent_106 (lv_at hl 0 rfl) ?_
    refine zx_iadd C.1 C.2.1 d_Journal_writeEvent_108 ?_
    refine zx_sipush C.1 C.2.1 d_Journal_writeEvent_109 (by decide) ?_
    refine as_jco C hK hE (by omega) d_Journal_writeEvent_112 (fun H locs hE => ?_)
    have hE : EW D vwCl (AE (adL ad) sz) (wE cI cZ cQ ad T M Cc ((iup (iup (iup (iup (iup (iup (iup (iup fld ((ev * 8) + 0) kind) ((ev * 8) + 1) node) ((ev * 8) + 2) round) ((ev * 8) + 3) time) ((ev * 8) + 4) 0) ((ev * 8) + 5) 0) ((ev * 8) + 6) 0) ((ev * 8) + 7) 0), (iup (iup jco ((ev * 4) + 0) (-1000)) ((ev * 4) + 1) (-1000)), rbs, ev, sk, tc, fa) Rr Ls) s.heap H locs := hE
    refine zx_iinc (lv' := [(6, .int (zI (1 + 1))), (5, .int (zI (ev * 8))), (0, .ref (ad 18)), (1, .int (zI kind)), (2, .int (zI node)), (3, .int (zI round)), (4, .int (zI time))]) C.1 C.2.1 d_Journal_writeEvent_113 hl (k := 0) rfl (by decide) rfl (fun ls hl => ?_)
    have hl : lv_has ls 7 [(6, .int (zI 2)), (5, .int (zI (ev * 8))), (0, .ref (ad 18)), (1, .int (zI kind)), (2, .int (zI node)), (3, .int (zI round)), (4, .int (zI time))] := hl
    refine lv_goto (tgt := 90) C.1 C.2.1 d_Journal_writeEvent_116 (by decide) ?_
    refine lv_iload C.1 C.2.1 d_Journal_writeEvent_90 (lv_at hl 0 rfl) ?_
    refine zx_iconst C.1 C.2.1 d_Journal_writeEvent_92 ?_
    refine zx_icmp_ge (tgt := 119) C.1 C.2.1 d_Journal_writeEvent_93 (by decide) (by decide) (fun c_9 => absurd c_9 (by decide)) (fun _ => ?_)
    refine lv_aload_n C.1 C.2.1 d_Journal_writeEvent_96 rfl (lv_at hl 2 rfl) ?_
    refine gf_Journal_15 C hK hE d_Journal_writeEvent_97 ?_
    refine lv_aload_n C.1 C.2.1 d_Journal_writeEvent_100 rfl (lv_at hl 2 rfl) ?_
    refine gf_Journal_21 (x := ev) C hK hE rfl d_Journal_writeEvent_101 ?_
    refine zx_iconst C.1 C.2.1 d_Journal_writeEvent_104 ?_
    refine zx_imul C.1 C.2.1 d_Journal_writeEvent_105 ?_
    refine lv_iload C.1 C.2.1 d_Journal_writeEvent_106 (lv_at hl 0 rfl) ?_
    refine zx_iadd C.1 C.2.1 d_Journal_writeEvent_108 ?_
    refine zx_sipush C.1 C.2.1 d_Journal_writeEvent_109 (by decide) ?_
    refine as_jco C hK hE (by omega) d_Journal_writeEvent_112 (fun H locs hE => ?_)
    have hE : EW D vwCl (AE (adL ad) sz) (wE cI cZ cQ ad T M Cc ((iup (iup (iup (iup (iup (iup (iup (iup fld ((ev * 8) + 0) kind) ((ev * 8) + 1) node) ((ev * 8) + 2) round) ((ev * 8) + 3) time) ((ev * 8) + 4) 0) ((ev * 8) + 5) 0) ((ev * 8) + 6) 0) ((ev * 8) + 7) 0), (iup (iup (iup jco ((ev * 4) + 0) (-1000)) ((ev * 4) + 1) (-1000)) ((ev * 4) + 2) (-1000)), rbs, ev, sk, tc, fa) Rr Ls) s.heap H locs := hE
    refine zx_iinc (lv' := [(6, .int (zI (2 + 1))), (5, .int (zI (ev * 8))), (0, .ref (ad 18)), (1, .int (zI kind)), (2, .int (zI node)), (3, .int (zI round)), (4, .int (zI time))]) C.1 C.2.1 d_Journal_writeEvent_113 hl (k := 0) rfl (by decide) rfl (fun ls hl => ?_)
    have hl : lv_has ls 7 [(6, .int (zI 3)), (5, .int (zI (ev * 8))), (0, .ref (ad 18)), (1, .int (zI kind)), (2, .int (zI node)), (3, .int (zI round)), (4, .int (zI time))] := hl
    refine lv_goto (tgt := 90) C.1 C.2.1 d_Journal_writeEvent_116 (by decide) ?_
    refine lv_iload C.1 C.2.1 d_Journal_writeEvent_90 (lv_at hl 0 rfl) ?_
    refine zx_iconst C.1 C.2.1 d_Journal_writeEvent_92 ?_
    refine zx_icmp_ge (tgt := 119) C.1 C.2.1 d_Journal_writeEvent_93 (by decide) (by decide) (fun c_10 => absurd c_10 (by decide)) (fun _ => ?_)
    refine lv_aload_n C.1 C.2.1 d_Journal_writeEvent_96 rfl (lv_at hl 2 rfl) ?_
    refine gf_Journal_15 C hK hE d_Journal_writeEvent_97 ?_
    refine lv_aload_n C.1 C.2.1 d_Journal_writeEvent_100 rfl (lv_at hl 2 rfl) ?_
    refine gf_Journal_21 (x := ev) C hK hE rfl d_Journal_writeEvent_101 ?_
    refine zx_iconst C.1 C.2.1 d_Journal_writeEvent_104 ?_
    refine zx_imul C.1 C.2.1 d_Journal_writeEvent_105 ?_
    refine lv_iload C.1 C.2.1 d_Journal_writeEvent_106 (lv_at hl 0 rfl) ?_
    refine zx_iadd C.1 C.2.1 d_Journal_writeEvent_108 ?_
    refine zx_sipush C.1 C.2.1 d_Journal_writeEvent_109 (by decide) ?_
    refine as_jco C hK hE (by omega) d_Journal_writeEvent_112 (fun H locs hE => ?_)
    have hE : EW D vwCl (AE (adL ad) sz) (wE cI cZ cQ ad T M Cc ((iup (iup (iup (iup (iup (iup (iup (iup fld ((ev * 8) + 0) kind) ((ev * 8) + 1) node) ((ev * 8) + 2) round) ((ev * 8) + 3) time) ((ev * 8) + 4) 0) ((ev * 8) + 5) 0) ((ev * 8) + 6) 0) ((ev * 8) + 7) 0), (iup (iup (iup (iup jco ((ev * 4) + 0) (-1000)) ((ev * 4) + 1) (-1000)) ((ev * 4) + 2) (-1000)) ((ev * 4) + 3) (-1000)), rbs, ev, sk, tc, fa) Rr Ls) s.heap H locs := hE
    refine zx_iinc (lv' := [(6, .int (zI (3 + 1))), (5, .int (zI (ev * 8))), (0, .ref (ad 18)), (1, .int (zI kind)), (2, .int (zI node)), (3, .int (zI round)), (4, .int (zI time))]) C.1 C.2.1 d_Journal_writeEvent_113 hl (k := 0) rfl (by decide) rfl (fun ls hl => ?_)
    have hl : lv_has ls 7 [(6, .int (zI 4)), (5, .int (zI (ev * 8))), (0, .ref (ad 18)), (1, .int (zI kind)), (2, .int (zI node)), (3, .int (zI round)), (4, .int (zI time))] := hl
    refine lv_goto (tgt := 90) C.1 C.2.1 d_Journal_writeEvent_116 (by decide) ?_
    refine lv_iload C.1 C.2.1 d_Journal_writeEvent_90 (lv_at hl 0 rfl) ?_
    refine zx_iconst C.1 C.2.1 d_Journal_writeEvent_92 ?_
    refine zx_icmp_ge (tgt := 119) C.1 C.2.1 d_Journal_writeEvent_93 (by decide) (by decide) (fun _ => ?_) (fun c_11 => absurd c_11 (by decide))
    refine lv_aload_n C.1 C.2.1 d_Journal_writeEvent_119 rfl (lv_at hl 2 rfl) ?_
    refine lv_dup C.1 C.2.1 d_Journal_writeEvent_120 rfl ?_
    refine gf_Journal_21 (x := ev) C hK hE rfl d_Journal_writeEvent_121 ?_
    refine zx_iconst C.1 C.2.1 d_Journal_writeEvent_124 ?_
    refine zx_iadd C.1 C.2.1 d_Journal_writeEvent_125 ?_
    refine pf_Journal_21 C hK hE d_Journal_writeEvent_126 (fun H locs hE => ?_)
    have hE : EW D vwCl (AE (adL ad) sz) (wE cI cZ cQ ad T M Cc ((iup (iup (iup (iup (iup (iup (iup (iup fld ((ev * 8) + 0) kind) ((ev * 8) + 1) node) ((ev * 8) + 2) round) ((ev * 8) + 3) time) ((ev * 8) + 4) 0) ((ev * 8) + 5) 0) ((ev * 8) + 6) 0) ((ev * 8) + 7) 0), (iup (iup (iup (iup jco ((ev * 4) + 0) (-1000)) ((ev * 4) + 1) (-1000)) ((ev * 4) + 2) (-1000)) ((ev * 4) + 3) (-1000)), rbs, (ev + 1), sk, tc, fa) Rr Ls) s.heap H locs := hE
    rw [show f_Journal_writeEvent (fld, jco, rbs, ev, sk, tc, fa) kind node round time = ((iup (iup (iup (iup (iup (iup (iup (iup fld ((ev * 8) + 0) kind) ((ev * 8) + 1) node) ((ev * 8) + 2) round) ((ev * 8) + 3) time) ((ev * 8) + 4) 0) ((ev * 8) + 5) 0) ((ev * 8) + 6) 0) ((ev * 8) + 7) 0), (iup (iup (iup (iup jco ((ev * 4) + 0) (-1000)) ((ev * 4) + 1) (-1000)) ((ev * 4) + 2) (-1000)) ((ev * 4) + 3) (-1000)), rbs, (ev + 1), sk, tc, fa) from by simp only [f_Journal_writeEvent, if_neg c_1]]
    exact E_vret C hr hlk () hE trivial d_Journal_writeEvent_129

def f_Journal_writeStarted (J : JSt) (node : Int) (round : Int) (time : Int) : JSt := (f_Journal_writeEvent J 1 node round time)
set_option maxHeartbeats 4000000 in
set_option maxRecDepth 100000 in
theorem c_Journal_writeStarted (l : Launch) (D : va_G) (cI cZ cQ : ClassId) (ad : Nat → Nat) (sz : Nat) (T : TSt) (M : MSt) (Cc : CSt) (J : JSt) (Rr : RSt) (Ls : LSt) (node : Int) (round : Int) (time : Int) (hev : 0 ≤ g_ev J ∧ g_ev J < 1000000000) : Met l y_Journal_writeStarted (Cond.code y_Journal_writeStarted b_Journal_writeStarted 4 none :: Wl) { frames := 1, cells := 0, slots := 0, locals := 26 } (PE D vwCl (tyE cI cZ cQ) (wE cI cZ cQ ad T M Cc J Rr Ls) sz [.ref (ad 18), .int (zI node), .int (zI round), .int (zI time)]) (QEv D vwCl (adL ad) sz (fun (_ : Unit) => True) (fun (_ : Unit) => (wE cI cZ cQ ad T M Cc (f_Journal_writeStarted J node round time) Rr Ls))) 0 0 (AE (adL ad) sz) := by
  refine E_start (by decide) wE_L (Nat.le_of_ble_eq_true rfl) ?_
  intro p e s m args below meth c C hr hlk hnm hsz hK H locs hE ls hl
  have C : CallFix p m c b_Journal_writeStarted 4 s args Wl R_Journal := C
  have hl : lv_has ls 4 [(0, .ref (ad 18)), (1, .int (zI node)), (2, .int (zI round)), (3, .int (zI time))] := hl
  refine lv_aload_n C.1 C.2.1 d_Journal_writeStarted_0 rfl (lv_at hl 0 rfl) ?_
  refine zx_iconst C.1 C.2.1 d_Journal_writeStarted_1 ?_
  refine lv_iload_n C.1 C.2.1 d_Journal_writeStarted_2 rfl (lv_at hl 1 rfl) ?_
  refine lv_iload_n C.1 C.2.1 d_Journal_writeStarted_3 rfl (lv_at hl 2 rfl) ?_
  refine lv_iload_n C.1 C.2.1 d_Journal_writeStarted_4 rfl (lv_at hl 3 rfl) ?_
  refine E_callv hsz hE (va_runV (As := [.int (zI 1), .int (zI node), .int (zI round), .int (zI time)]) (rest := []) C (c_Journal_writeEvent l D cI cZ cQ ad H.size T M Cc J Rr Ls 1 node round time (show 0 ≤ (g_ev J) ∧ (g_ev J) < 1000000000 by omega)) (E_cwV C.2.2.2.2 lw_good cw_Journal_35 rfl rfl hd_Journal_writeEvent ⟨Nat.le_of_ble_eq_true rfl, Nat.le_of_ble_eq_true rfl⟩) (E_preV hK hE (q := (R_Journal, F_Journal, 7)) (ci := 1) (q0 := 18) rfl rfl) rfl rfl hl.1 rfl (lv_room (Nat.le_of_ble_eq_true rfl)) d_Journal_writeStarted_5 ⟨Nat.zero_le _, Nat.zero_le _⟩) (fun u H locs hw hE => ?_)
  rw [show f_Journal_writeStarted J node round time = (f_Journal_writeEvent J 1 node round time) from rfl]
  exact E_vret C hr hlk () hE trivial d_Journal_writeStarted_8

def f_Journal_writeSkipped (J : JSt) (node : Int) (round : Int) (time : Int) : JSt := (f_Journal_writeEvent ((g_fld J), (g_jco J), (g_rbs J), (g_ev J), ((g_sk J) + 1), (g_tc J), (g_fa J)) 3 node round time)
set_option maxHeartbeats 4000000 in
set_option maxRecDepth 100000 in
theorem c_Journal_writeSkipped (l : Launch) (D : va_G) (cI cZ cQ : ClassId) (ad : Nat → Nat) (sz : Nat) (T : TSt) (M : MSt) (Cc : CSt) (J : JSt) (Rr : RSt) (Ls : LSt) (node : Int) (round : Int) (time : Int) (hev : 0 ≤ g_ev J ∧ g_ev J < 1000000000) : Met l y_Journal_writeSkipped (Cond.code y_Journal_writeSkipped b_Journal_writeSkipped 4 none :: Wl) { frames := 1, cells := 0, slots := 0, locals := 26 } (PE D vwCl (tyE cI cZ cQ) (wE cI cZ cQ ad T M Cc J Rr Ls) sz [.ref (ad 18), .int (zI node), .int (zI round), .int (zI time)]) (QEv D vwCl (adL ad) sz (fun (_ : Unit) => True) (fun (_ : Unit) => (wE cI cZ cQ ad T M Cc (f_Journal_writeSkipped J node round time) Rr Ls))) 0 0 (AE (adL ad) sz) := by
  refine E_start (by decide) wE_L (Nat.le_of_ble_eq_true rfl) ?_
  intro p e s m args below meth c C hr hlk hnm hsz hK H locs hE ls hl
  have C : CallFix p m c b_Journal_writeSkipped 4 s args Wl R_Journal := C
  have hl : lv_has ls 4 [(0, .ref (ad 18)), (1, .int (zI node)), (2, .int (zI round)), (3, .int (zI time))] := hl
  refine lv_aload_n C.1 C.2.1 d_Journal_writeSkipped_0 rfl (lv_at hl 0 rfl) ?_
  refine lv_dup C.1 C.2.1 d_Journal_writeSkipped_1 rfl ?_
  refine gf_Journal_25 (x := (g_sk J)) C hK hE rfl d_Journal_writeSkipped_2 ?_
  refine zx_iconst C.1 C.2.1 d_Journal_writeSkipped_5 ?_
  refine zx_iadd C.1 C.2.1 d_Journal_writeSkipped_6 ?_
  refine pf_Journal_25 C hK hE d_Journal_writeSkipped_7 (fun H locs hE => ?_)
  have hE : EW D vwCl (AE (adL ad) sz) (wE cI cZ cQ ad T M Cc ((g_fld J), (g_jco J), (g_rbs J), (g_ev J), ((g_sk J) + 1), (g_tc J), (g_fa J)) Rr Ls) s.heap H locs := hE
  refine lv_aload_n C.1 C.2.1 d_Journal_writeSkipped_10 rfl (lv_at hl 0 rfl) ?_
  refine zx_iconst C.1 C.2.1 d_Journal_writeSkipped_11 ?_
  refine lv_iload_n C.1 C.2.1 d_Journal_writeSkipped_12 rfl (lv_at hl 1 rfl) ?_
  refine lv_iload_n C.1 C.2.1 d_Journal_writeSkipped_13 rfl (lv_at hl 2 rfl) ?_
  refine lv_iload_n C.1 C.2.1 d_Journal_writeSkipped_14 rfl (lv_at hl 3 rfl) ?_
  refine E_callv hsz hE (va_runV (As := [.int (zI 3), .int (zI node), .int (zI round), .int (zI time)]) (rest := []) C (c_Journal_writeEvent l D cI cZ cQ ad H.size T M Cc ((g_fld J), (g_jco J), (g_rbs J), (g_ev J), ((g_sk J) + 1), (g_tc J), (g_fa J)) Rr Ls 3 node round time (show 0 ≤ (g_ev J) ∧ (g_ev J) < 1000000000 by omega)) (E_cwV C.2.2.2.2 lw_good cw_Journal_35 rfl rfl hd_Journal_writeEvent ⟨Nat.le_of_ble_eq_true rfl, Nat.le_of_ble_eq_true rfl⟩) (E_preV hK hE (q := (R_Journal, F_Journal, 7)) (ci := 1) (q0 := 18) rfl rfl) rfl rfl hl.1 rfl (lv_room (Nat.le_of_ble_eq_true rfl)) d_Journal_writeSkipped_15 ⟨Nat.zero_le _, Nat.zero_le _⟩) (fun u H locs hw hE => ?_)
  rw [show f_Journal_writeSkipped J node round time = (f_Journal_writeEvent ((g_fld J), (g_jco J), (g_rbs J), (g_ev J), ((g_sk J) + 1), (g_tc J), (g_fa J)) 3 node round time) from rfl]
  exact E_vret C hr hlk () hE trivial d_Journal_writeSkipped_18

def f_Journal_writeOutcome (J : JSt) (Ls : LSt) (v : Int) (inst : Int) : JSt := match J with | (fld, jco, rbs, ev, sk, tc, fa) => if (f_Troubles_status Ls v) = 1 then if (f_Engine_isWithin (ev - 1) 0 149) = 0 then (fld, jco, rbs, ev, sk, tc, 1) else ((iup (iup (iup (iup fld (((ev - 1) * 8) + 4) (f_Troubles_status Ls v)) (((ev - 1) * 8) + 5) (f_Troubles_firstCode Ls v)) (((ev - 1) * 8) + 6) (f_Troubles_sizeBehindFirst Ls v)) (((ev - 1) * 8) + 7) inst), (iup (iup (iup (iup jco (((ev - 1) * 4) + 0) (f_Troubles_codeOrNone Ls v 0)) (((ev - 1) * 4) + 1) (f_Troubles_codeOrNone Ls v 1)) (((ev - 1) * 4) + 2) (f_Troubles_codeOrNone Ls v 2)) (((ev - 1) * 4) + 3) (f_Troubles_codeOrNone Ls v 3)), rbs, ev, sk, tc, 1) else if (f_Engine_isWithin (ev - 1) 0 149) = 0 then (fld, jco, rbs, ev, sk, tc, fa) else ((iup (iup (iup (iup fld (((ev - 1) * 8) + 4) (f_Troubles_status Ls v)) (((ev - 1) * 8) + 5) (f_Troubles_firstCode Ls v)) (((ev - 1) * 8) + 6) (f_Troubles_sizeBehindFirst Ls v)) (((ev - 1) * 8) + 7) inst), (iup (iup (iup (iup jco (((ev - 1) * 4) + 0) (f_Troubles_codeOrNone Ls v 0)) (((ev - 1) * 4) + 1) (f_Troubles_codeOrNone Ls v 1)) (((ev - 1) * 4) + 2) (f_Troubles_codeOrNone Ls v 2)) (((ev - 1) * 4) + 3) (f_Troubles_codeOrNone Ls v 3)), rbs, ev, sk, tc, fa)
set_option maxHeartbeats 4000000 in
set_option maxRecDepth 100000 in
theorem c_Journal_writeOutcome (l : Launch) (D : va_G) (cI cZ cQ : ClassId) (ad : Nat → Nat) (sz : Nat) (T : TSt) (M : MSt) (Cc : CSt) (J : JSt) (Rr : RSt) (Ls : LSt) (v : Int) (inst : Int) (hl_v : 0 ≤ v ∧ v < 5) (hLz : ∀ k, 0 ≤ g_lz Ls k ∧ g_lz Ls k < 1000000000) (hLg : ∀ k, g_lg Ls k = 0 ∨ g_lg Ls k = 1) (hev : 0 ≤ g_ev J ∧ g_ev J < 1000000000) : Met l y_Journal_writeOutcome (Cond.code y_Journal_writeOutcome b_Journal_writeOutcome 6 none :: Wl) { frames := 1, cells := 0, slots := 0, locals := 22 } (PE D vwCl (tyE cI cZ cQ) (wE cI cZ cQ ad T M Cc J Rr Ls) sz [.ref (ad 18), .ref (ad (26 + v.toNat)), .int (zI inst)]) (QEv D vwCl (adL ad) sz (fun (_ : Unit) => True) (fun (_ : Unit) => (wE cI cZ cQ ad T M Cc (f_Journal_writeOutcome J Ls v inst) Rr Ls))) 0 0 (AE (adL ad) sz) := by
  obtain ⟨fld, jco, rbs, ev, sk, tc, fa⟩ := J
  simp only [g_fld, g_jco, g_rbs, g_ev, g_sk, g_tc, g_fa] at hl_v hLz hLg hev
  refine E_start (by decide) wE_L (Nat.le_of_ble_eq_true rfl) ?_
  intro p e s m args below meth c C hr hlk hnm hsz hK H locs hE ls hl
  have C : CallFix p m c b_Journal_writeOutcome 6 s args Wl R_Journal := C
  have hl : lv_has ls 6 [(0, .ref (ad 18)), (1, .ref (ad (26 + v.toNat))), (2, .int (zI inst))] := hl
  refine lv_aload_n C.1 C.2.1 d_Journal_writeOutcome_0 rfl (lv_at hl 1 rfl) ?_
  refine E_calli hsz hE (va_runV (As := []) (rest := []) C (c_Troubles_status l D cI cZ cQ ad H.size T M Cc (fld, jco, rbs, ev, sk, tc, fa) Rr Ls v (show 0 ≤ v ∧ v < 5 by omega) hLz hLg) (E_cwV C.2.2.2.2 lw_good cw_Journal_49 rfl rfl hd_Troubles_status ⟨Nat.le_of_ble_eq_true rfl, Nat.le_of_ble_eq_true rfl⟩) (E_preV hK hE (q := (R_Troubles, F_Troubles, 3)) (ci := 5) (q0 := (26 + v.toNat)) rfl (wE_T (by omega))) rfl rfl hl.1 rfl (lv_room (Nat.le_of_ble_eq_true rfl)) d_Journal_writeOutcome_1 ⟨Nat.zero_le _, Nat.zero_le _⟩) (fun r u H locs hw hE => ?_)
  subst hw
  have hb_1 := status_rg Ls v
  refine zx_iconst C.1 C.2.1 d_Journal_writeOutcome_4 ?_
  refine zx_icmp_ne (tgt := 13) C.1 C.2.1 d_Journal_writeOutcome_5 (by decide) (by omega) (fun c_2 => ?_) (fun c_2 => ?_)
  · refine lv_aload_n C.1 C.2.1 d_Journal_writeOutcome_13 rfl (lv_at hl 0 rfl) ?_
    refine gf_Journal_21 (x := ev) C hK hE rfl d_Journal_writeOutcome_14 ?_
    refine zx_iconst C.1 C.2.1 d_Journal_writeOutcome_17 ?_
    refine zx_isub C.1 C.2.1 d_Journal_writeOutcome_18 ?_
    refine lv_istore_n (lv' := [(3, .int (zI (ev - 1))), (0, .ref (ad 18)), (1, .ref (ad (26 + v.toNat))), (2, .int (zI inst))]) C.1 C.2.1 d_Journal_writeOutcome_19 rfl hl (by decide) rfl (fun ls hl => ?_)
    refine lv_iload_n C.1 C.2.1 d_Journal_writeOutcome_20 rfl (lv_at hl 0 rfl) ?_
    refine zx_iconst C.1 C.2.1 d_Journal_writeOutcome_21 ?_
    refine zx_sipush C.1 C.2.1 d_Journal_writeOutcome_22 (by decide) ?_
    refine E_calli hsz hE (va_runSN (As := [.int (zI (ev - 1)), .int (zI 0), .int (zI 149)]) (rest := []) C (c_Engine_isWithin l D cI cZ cQ H.size (wE cI cZ cQ ad T M Cc (fld, jco, rbs, ev, sk, tc, fa) Rr Ls) (adL ad) wE_L (ev - 1) 0 149 (show -2147483648 ≤ (ev - 1) ∧ (ev - 1) < 2147483648 by omega) (show -2147483648 ≤ 0 ∧ 0 < 2147483648 by omega) (show -2147483648 ≤ 149 ∧ 149 < 2147483648 by omega)) (E_cwN C.2.2.2.2 lw_good hK.2.2.1 cn_Engine_isWithin rfl rfl hd_Engine_isWithin ⟨Nat.le_of_ble_eq_true rfl, Nat.le_of_ble_eq_true rfl⟩) (E_preS hK hE) rfl rfl hl.1 rfl (lv_room (Nat.le_of_ble_eq_true rfl)) d_Journal_writeOutcome_25 ⟨Nat.zero_le _, Nat.zero_le _⟩) (fun r u H locs hw hE => ?_)
    subst hw
    have hb_3 := f_Engine_isWithin_rg (ev - 1) 0 149
    refine zx_if_ne (tgt := 32) C.1 C.2.1 d_Journal_writeOutcome_28 (by decide) (by omega) (fun c_4 => ?_) (fun c_4 => ?_)
    · have hn_5 := isWithin_t c_4
      refine lv_iload_n C.1 C.2.1 d_Journal_writeOutcome_32 rfl (lv_at hl 0 rfl) ?_
      refine zx_bipush C.1 C.2.1 d_Journal_writeOutcome_33 (by decide) ?_
      refine zx_imul C.1 C.2.1 d_Journal_writeOutcome_35 ?_
      refine lv_istore (lv' := [(4, .int (zI ((ev - 1) * 8))), (3, .int (zI (ev - 1))), (0, .ref (ad 18)), (1, .ref (ad (26 + v.toNat))), (2, .int (zI inst))]) C.1 C.2.1 d_Journal_writeOutcome_36 hl (by decide) rfl (fun ls hl => ?_)
      refine lv_aload_n C.1 C.2.1 d_Journal_writeOutcome_38 rfl (lv_at hl 2 rfl) ?_
      refine gf_Journal_9 C hK hE d_Journal_writeOutcome_39 ?_
      refine lv_iload C.1 C.2.1 d_Journal_writeOutcome_42 (lv_at hl 0 rfl) ?_
      refine zx_iconst C.1 C.2.1 d_Journal_writeOutcome_44 ?_
      refine zx_iadd C.1 C.2.1 d_Journal_writeOutcome_45 ?_
      refine lv_aload_n C.1 C.2.1 d_Journal_writeOutcome_46 rfl (lv_at hl 3 rfl) ?_
      refine E_calli hsz hE (va_runV (As := []) (rest := [.int (zI (((ev - 1) * 8) + 4)), .ref (ad 19)]) C (c_Troubles_status l D cI cZ cQ ad H.size T M Cc (fld, jco, rbs, ev, sk, tc, fa) Rr Ls v (show 0 ≤ v ∧ v < 5 by omega) hLz hLg) (E_cwV C.2.2.2.2 lw_good cw_Journal_49 rfl rfl hd_Troubles_status ⟨Nat.le_of_ble_eq_true rfl, Nat.le_of_ble_eq_true rfl⟩) (E_preV hK hE (q := (R_Troubles, F_Troubles, 3)) (ci := 5) (q0 := (26 + v.toNat)) rfl (wE_T (by omega))) rfl rfl hl.1 rfl (lv_room (Nat.le_of_ble_eq_true rfl)) d_Journal_writeOutcome_47 ⟨Nat.zero_le _, Nat.zero_le _⟩) (fun r u H locs hw hE => ?_)
      subst hw
      have hb_6 := status_rg Ls v
      refine as_fld C hK hE (by omega) d_Journal_writeOutcome_50 (fun H locs hE => ?_)
      have hE : EW D vwCl (AE (adL ad) sz) (wE cI cZ cQ ad T M Cc ((iup fld (((ev - 1) * 8) + 4) (f_Troubles_status Ls v)), jco, rbs, ev, sk, tc, fa) Rr Ls) s.heap H locs := hE
      refine lv_aload_n C.1 C.2.1 d_Journal_writeOutcome_51 rfl (lv_at hl 2 rfl) ?_
      refine gf_Journal_9 C hK hE d_Journal_writeOutcome_52 ?_
      refine lv_iload C.1 C.2.1 d_Journal_writeOutcome_55 (lv_at hl 0 rfl) ?_
      refine zx_iconst C.1 C.2.1 d_Journal_writeOutcome_57 ?_
      refine zx_iadd C.1 C.2.1 d_Journal_writeOutcome_58 ?_
      refine lv_aload_n C.1 C.2.1 d_Journal_writeOutcome_59 rfl (lv_at hl 3 rfl) ?_
      refine E_calli hsz hE (va_runV (As := []) (rest := [.int (zI (((ev - 1) * 8) + 5)), .ref (ad 19)]) C (c_Troubles_firstCode l D cI cZ cQ ad H.size T M Cc ((iup fld (((ev - 1) * 8) + 4) (f_Troubles_status Ls v)), jco, rbs, ev, sk, tc, fa) Rr Ls v (show 0 ≤ v ∧ v < 5 by omega) hLz) (E_cwV C.2.2.2.2 lw_good cw_Journal_57 rfl rfl hd_Troubles_firstCode ⟨Nat.le_of_ble_eq_true rfl, Nat.le_of_ble_eq_true rfl⟩) (E_preV hK hE (q := (R_Troubles, F_Troubles, 3)) (ci := 5) (q0 := (26 + v.toNat)) rfl (wE_T (by omega))) rfl rfl hl.1 rfl (lv_room (Nat.le_of_ble_eq_true rfl)) d_Journal_writeOutcome_60 ⟨Nat.zero_le _, Nat.zero_le _⟩) (fun r u H locs hw hE => ?_)
      subst hw
      refine as_fld C hK hE (by omega) d_Journal_writeOutcome_63 (fun H locs hE => ?_)
      have hE : EW D vwCl (AE (adL ad) sz) (wE cI cZ cQ ad T M Cc ((iup (iup fld (((ev - 1) * 8) + 4) (f_Troubles_status Ls v)) (((ev - 1) * 8) + 5) (f_Troubles_firstCode Ls v)), jco, rbs, ev, sk, tc, fa) Rr Ls) s.heap H locs := hE
      refine lv_aload_n C.1 C.2.1 d_Journal_writeOutcome_64 rfl (lv_at hl 2 rfl) ?_
      refine gf_Journal_9 C hK hE d_Journal_writeOutcome_65 ?_
      refine lv_iload C.1 C.2.1 d_Journal_writeOutcome_68 (lv_at hl 0 rfl) ?_
      refine zx_bipush C.1 C.2.1 d_Journal_writeOutcome_70 (by decide) ?_
      refine zx_iadd C.1 C.2.1 d_Journal_writeOutcome_72 ?_
      refine lv_aload_n C.1 C.2.1 d_Journal_writeOutcome_73 rfl (lv_at hl 3 rfl) ?_
      refine E_calli hsz hE (va_runV (As := []) (rest := [.int (zI (((ev - 1) * 8) + 6)), .ref (ad 19)]) C (c_Troubles_sizeBehindFirst l D cI cZ cQ ad H.size T M Cc ((iup (iup fld (((ev - 1) * 8) + 4) (f_Troubles_status Ls v)) (((ev - 1) * 8) + 5) (f_Troubles_firstCode Ls v)), jco, rbs, ev, sk, tc, fa) Rr Ls v (show 0 ≤ v ∧ v < 5 by omega) hLz) (E_cwV C.2.2.2.2 lw_good cw_Journal_60 rfl rfl hd_Troubles_sizeBehindFirst ⟨Nat.le_of_ble_eq_true rfl, Nat.le_of_ble_eq_true rfl⟩) (E_preV hK hE (q := (R_Troubles, F_Troubles, 3)) (ci := 5) (q0 := (26 + v.toNat)) rfl (wE_T (by omega))) rfl rfl hl.1 rfl (lv_room (Nat.le_of_ble_eq_true rfl)) d_Journal_writeOutcome_74 ⟨Nat.zero_le _, Nat.zero_le _⟩) (fun r u H locs hw hE => ?_)
      subst hw
      refine as_fld C hK hE (by omega) d_Journal_writeOutcome_77 (fun H locs hE => ?_)
      have hE : EW D vwCl (AE (adL ad) sz) (wE cI cZ cQ ad T M Cc ((iup (iup (iup fld (((ev - 1) * 8) + 4) (f_Troubles_status Ls v)) (((ev - 1) * 8) + 5) (f_Troubles_firstCode Ls v)) (((ev - 1) * 8) + 6) (f_Troubles_sizeBehindFirst Ls v)), jco, rbs, ev, sk, tc, fa) Rr Ls) s.heap H locs := hE
      refine lv_aload_n C.1 C.2.1 d_Journal_writeOutcome_78 rfl (lv_at hl 2 rfl) ?_
      refine gf_Journal_9 C hK hE d_Journal_writeOutcome_79 ?_
      refine lv_iload C.1 C.2.1 d_Journal_writeOutcome_82 (lv_at hl 0 rfl) ?_
      refine zx_bipush C.1 C.2.1 d_Journal_writeOutcome_84 (by decide) ?_
      refine zx_iadd C.1 C.2.1 d_Journal_writeOutcome_86 ?_
      refine lv_iload_n C.1 C.2.1 d_Journal_writeOutcome_87 rfl (lv_at hl 4 rfl) ?_
      refine as_fld C hK hE (by omega) d_Journal_writeOutcome_88 (fun H locs hE => ?_)
      have hE : EW D vwCl (AE (adL ad) sz) (wE cI cZ cQ ad T M Cc ((iup (iup (iup (iup fld (((ev - 1) * 8) + 4) (f_Troubles_status Ls v)) (((ev - 1) * 8) + 5) (f_Troubles_firstCode Ls v)) (((ev - 1) * 8) + 6) (f_Troubles_sizeBehindFirst Ls v)) (((ev - 1) * 8) + 7) inst), jco, rbs, ev, sk, tc, fa) Rr Ls) s.heap H locs := hE
      refine zx_iconst C.1 C.2.1 d_Journal_writeOutcome_89 ?_
      refine lv_istore (lv' := [(5, .int (zI 0)), (4, .int (zI ((ev - 1) * 8))), (3, .int (zI (ev - 1))), (0, .ref (ad 18)), (1, .ref (ad (26 + v.toNat))), (2, .int (zI inst))]) C.1 C.2.1 d_Journal_writeOutcome_90 hl (by decide) rfl (fun ls hl => ?_)
      refine lv_iload C.1 C.2.1 d_Journal_writeOutcome_92 (lv_at hl 0 rfl) ?_
      refine zx_iconst C.1 C.2.1 d_Journal_writeOutcome_94 ?_
      refine zx_icmp_ge (tgt := 121) C.1 C.2.1 d_Journal_writeOutcome_95 (by decide) (by decide) (fun c_7 => absurd c_7 (by decide)) (fun _ => ?_)
      refine lv_aload_n C.1 C.2.1 d_Journal_writeOutcome_98 rfl (lv_at hl 3 rfl) ?_
      refine gf_Journal_15 C hK hE d_Journal_writeOutcome_99 ?_
      refine lv_iload_n C.1 C.2.1 d_Journal_writeOutcome_102 rfl (lv_at hl 2 rfl) ?_
      refine zx_iconst C.1 C.2.1 d_Journal_writeOutcome_103 ?_
      refine zx_imul C.1 C.2.1 d_Journal_writeOutcome_104 ?_
      refine lv_iload C.1 C.2.1 d_Journal_writeOutcome_105 (lv_at hl 0 rfl) ?_
      refine zx_iadd C.1 C.2.1 d_Journal_writeOutcome_107 ?_
      refine lv_aload_n C.1 C.2.1 d_Journal_writeOutcome_108 rfl (lv_at hl 4 rfl) ?_
      refine lv_iload C.1 C.2.1 d_Journal_writeOutcome_109 (lv_at hl 0 rfl) ?_
      refine E_calli hsz hE (va_runV (As := [.int (zI 0)]) (rest := [.int (zI (((ev - 1) * 4) + 0)), .ref (ad 20)]) C (c_Troubles_codeOrNone l D cI cZ cQ ad H.size T M Cc ((iup (iup (iup (iup fld (((ev - 1) * 8) + 4) (f_Troubles_status Ls v)) (((ev - 1) * 8) + 5) (f_Troubles_firstCode Ls v)) (((ev - 1) * 8) + 6) (f_Troubles_sizeBehindFirst Ls v)) (((ev - 1) * 8) + 7) inst), jco, rbs, ev, sk, tc, fa) Rr Ls v 0 (show 0 ≤ v ∧ v < 5 by omega) hLz (show 0 ≤ 0 ∧ 0 < 4 by omega)) (E_cwV C.2.2.2.2 lw_good cw_Journal_63 rfl rfl hd_Troubles_codeOrNone ⟨Nat.le_of_ble_eq_true rfl, Nat.le_of_ble_eq_true rfl⟩) (E_preV hK hE (q := (R_Troubles, F_Troubles, 3)) (ci := 5) (q0 := (26 + v.toNat)) rfl (wE_T (by omega))) rfl rfl hl.1 rfl (lv_room (Nat.le_of_ble_eq_true rfl)) d_Journal_writeOutcome_111 ⟨Nat.zero_le _, Nat.zero_le _⟩) (fun r u H locs hw hE => ?_)
      subst hw
      refine as_jco C hK hE (by omega) d_Journal_writeOutcome_114 (fun H locs hE => ?_)
      have hE : EW D vwCl (AE (adL ad) sz) (wE cI cZ cQ ad T M Cc ((iup (iup (iup (iup fld (((ev - 1) * 8) + 4) (f_Troubles_status Ls v)) (((ev - 1) * 8) + 5) (f_Troubles_firstCode Ls v)) (((ev - 1) * 8) + 6) (f_Troubles_sizeBehindFirst Ls v)) (((ev - 1) * 8) + 7) inst), (iup jco (((ev - 1) * 4) + 0) (f_Troubles_codeOrNone Ls v 0)), rbs, ev, sk, tc, fa) Rr Ls) s.heap H locs := hE
      refine zx_iinc (lv' := [(5, .int (zI (0 + 1))), (4, .int (zI ((ev - 1) * 8))), (3, .int (zI (ev - 1))), (0, .ref (ad 18)), (1, .ref (ad (26 + v.toNat))), (2, .int (zI inst))]) C.1 C.2.1 d_Journal_writeOutcome_115 hl (k := 0) rfl (by decide) rfl (fun ls hl => ?_)
      have hl : lv_has ls 6 [(5, .int (zI 1)), (4, .int (zI ((ev - 1) * 8))), (3, .int (zI (ev - 1))), (0, .ref (ad 18)), (1, .ref (ad (26 + v.toNat))), (2, .int (zI inst))] := hl
      refine lv_goto (tgt := 92) C.1 C.2.1 d_Journal_writeOutcome_118 (by decide) ?_
      refine lv_iload C.1 C.2.1 d_Journal_writeOutcome_92 (lv_at hl 0 rfl) ?_
      refine zx_iconst C.1 C.2.1 d_Journal_writeOutcome_94 ?_
      refine zx_icmp_ge (tgt := 121) C.1 C.2.1 d_Journal_writeOutcome_95 (by decide) (by decide) (fun c_8 => absurd c_8 (by decide)) (fun _ => ?_)
      refine lv_aload_n C.1 C.2.1 d_Journal_writeOutcome_98 rfl (lv_at hl 3 rfl) ?_
      refine gf_Journal_15 C hK hE d_Journal_writeOutcome_99 ?_
      refine lv_iload_n C.1 C.2.1 d_Journal_writeOutcome_102 rfl (lv_at hl 2 rfl) ?_
      refine zx_iconst C.1 C.2.1 d_Journal_writeOutcome_103 ?_
      refine zx_imul C.1 C.2.1 d_Journal_writeOutcome_104 ?_
      refine lv_iload C.1 C.2.1 d_Journal_writeOutcome_105 (lv_at hl 0 rfl) ?_
      refine zx_iadd C.1 C.2.1 d_Journal_writeOutcome_107 ?_
      refine lv_aload_n C.1 C.2.1 d_Journal_writeOutcome_108 rfl (lv_at hl 4 rfl) ?_
      refine lv_iload C.1 C.2.1 d_Journal_writeOutcome_109 (lv_at hl 0 rfl) ?_
      refine E_calli hsz hE (va_runV (As := [.int (zI 1)]) (rest := [.int (zI (((ev - 1) * 4) + 1)), .ref (ad 20)]) C (c_Troubles_codeOrNone l D cI cZ cQ ad H.size T M Cc ((iup (iup (iup (iup fld (((ev - 1) * 8) + 4) (f_Troubles_status Ls v)) (((ev - 1) * 8) + 5) (f_Troubles_firstCode Ls v)) (((ev - 1) * 8) + 6) (f_Troubles_sizeBehindFirst Ls v)) (((ev - 1) * 8) + 7) inst), (iup jco (((ev - 1) * 4) + 0) (f_Troubles_codeOrNone Ls v 0)), rbs, ev, sk, tc, fa) Rr Ls v 1 (show 0 ≤ v ∧ v < 5 by omega) hLz (show 0 ≤ 1 ∧ 1 < 4 by omega)) (E_cwV C.2.2.2.2 lw_good cw_Journal_63 rfl rfl hd_Troubles_codeOrNone ⟨Nat.le_of_ble_eq_true rfl, Nat.le_of_ble_eq_true rfl⟩) (E_preV hK hE (q := (R_Troubles, F_Troubles, 3)) (ci := 5) (q0 := (26 + v.toNat)) rfl (wE_T (by omega))) rfl rfl hl.1 rfl (lv_room (Nat.le_of_ble_eq_true rfl)) d_Journal_writeOutcome_111 ⟨Nat.zero_le _, Nat.zero_le _⟩) (fun r u H locs hw hE => ?_)
      subst hw
      refine as_jco C hK hE (by omega) d_Journal_writeOutcome_114 (fun H locs hE => ?_)
      have hE : EW D vwCl (AE (adL ad) sz) (wE cI cZ cQ ad T M Cc ((iup (iup (iup (iup fld (((ev - 1) * 8) + 4) (f_Troubles_status Ls v)) (((ev - 1) * 8) + 5) (f_Troubles_firstCode Ls v)) (((ev - 1) * 8) + 6) (f_Troubles_sizeBehindFirst Ls v)) (((ev - 1) * 8) + 7) inst), (iup (iup jco (((ev - 1) * 4) + 0) (f_Troubles_codeOrNone Ls v 0)) (((ev - 1) * 4) + 1) (f_Troubles_codeOrNone Ls v 1)), rbs, ev, sk, tc, fa) Rr Ls) s.heap H locs := hE
      refine zx_iinc (lv' := [(5, .int (zI (1 + 1))), (4, .int (zI ((ev - 1) * 8))), (3, .int (zI (ev - 1))), (0, .ref (ad 18)), (1, .ref (ad (26 + v.toNat))), (2, .int (zI inst))]) C.1 C.2.1 d_Journal_writeOutcome_115 hl (k := 0) rfl (by decide) rfl (fun ls hl => ?_)
      have hl : lv_has ls 6 [(5, .int (zI 2)), (4, .int (zI ((ev - 1) * 8))), (3, .int (zI (ev - 1))), (0, .ref (ad 18)), (1, .ref (ad (26 + v.toNat))), (2, .int (zI inst))] := hl
      refine lv_goto (tgt := 92) C.1 C.2.1 d_Journal_writeOutcome_118 (by decide) ?_
      refine lv_iload C.1 C.2.1 d_Journal_writeOutcome_92 (lv_at hl 0 rfl) ?_
      refine zx_iconst C.1 C.2.1 d_Journal_writeOutcome_94 ?_
      refine zx_icmp_ge (tgt := 121) C.1 C.2.1 d_Journal_writeOutcome_95 (by decide) (by decide) (fun c_9 => absurd c_9 (by decide)) (fun _ => ?_)
      refine lv_aload_n C.1 C.2.1 d_Journal_writeOutcome_98 rfl (lv_at hl 3 rfl) ?_
      refine gf_Journal_15 C hK hE d_Journal_writeOutcome_99 ?_
      refine lv_iload_n C.1 C.2.1 d_Journal_writeOutcome_102 rfl (lv_at hl 2 rfl) ?_
      refine zx_iconst C.1 C.2.1 d_Journal_writeOutcome_103 ?_
      refine zx_imul C.1 C.2.1 d_Journal_writeOutcome_104 ?_
      refine lv_iload C.1 C.2.1 d_Journal_writeOutcome_105 (lv_at hl 0 rfl) ?_
      refine zx_iadd C.1 C.2.1 d_Journal_writeOutcome_107 ?_
      refine lv_aload_n C.1 C.2.1 d_Journal_writeOutcome_108 rfl (lv_at hl 4 rfl) ?_
      refine lv_iload C.1 C.2.1 d_Journal_writeOutcome_109 (lv_at hl 0 rfl) ?_
      refine E_calli hsz hE (va_runV (As := [.int (zI 2)]) (rest := [.int (zI (((ev - 1) * 4) + 2)), .ref (ad 20)]) C (c_Troubles_codeOrNone l D cI cZ cQ ad H.size T M Cc ((iup (iup (iup (iup fld (((ev - 1) * 8) + 4) (f_Troubles_status Ls v)) (((ev - 1) * 8) + 5) (f_Troubles_firstCode Ls v)) (((ev - 1) * 8) + 6) (f_Troubles_sizeBehindFirst Ls v)) (((ev - 1) * 8) + 7) inst), (iup (iup jco (((ev - 1) * 4) + 0) (f_Troubles_codeOrNone Ls v 0)) (((ev - 1) * 4) + 1) (f_Troubles_codeOrNone Ls v 1)), rbs, ev, sk, tc, fa) Rr Ls v 2 (show 0 ≤ v ∧ v < 5 by omega) hLz (show 0 ≤ 2 ∧ 2 < 4 by omega)) (E_cwV C.2.2.2.2 lw_good cw_Journal_63 rfl rfl hd_Troubles_codeOrNone ⟨Nat.le_of_ble_eq_true rfl, Nat.le_of_ble_eq_true rfl⟩) (E_preV hK hE (q := (R_Troubles, F_Troubles, 3)) (ci := 5) (q0 := (26 + v.toNat)) rfl (wE_T (by omega))) rfl rfl hl.1 rfl (lv_room (Nat.le_of_ble_eq_true rfl)) d_Journal_writeOutcome_111 ⟨Nat.zero_le _, Nat.zero_le _⟩) (fun r u H locs hw hE => ?_)
      subst hw
      refine as_jco C hK hE (by omega) d_Journal_writeOutcome_114 (fun H locs hE => ?_)
      have hE : EW D vwCl (AE (adL ad) sz) (wE cI cZ cQ ad T M Cc ((iup (iup (iup (iup fld (((ev - 1) * 8) + 4) (f_Troubles_status Ls v)) (((ev - 1) * 8) + 5) (f_Troubles_firstCode Ls v)) (((ev - 1) * 8) + 6) (f_Troubles_sizeBehindFirst Ls v)) (((ev - 1) * 8) + 7) inst), (iup (iup (iup jco (((ev - 1) * 4) + 0) (f_Troubles_codeOrNone Ls v 0)) (((ev - 1) * 4) + 1) (f_Troubles_codeOrNone Ls v 1)) (((ev - 1) * 4) + 2) (f_Troubles_codeOrNone Ls v 2)), rbs, ev, sk, tc, fa) Rr Ls) s.heap H locs := hE
      refine zx_iinc (lv' := [(5, .int (zI (2 + 1))), (4, .int (zI ((ev - 1) * 8))), (3, .int (zI (ev - 1))), (0, .ref (ad 18)), (1, .ref (ad (26 + v.toNat))), (2, .int (zI inst))]) C.1 C.2.1 d_Journal_writeOutcome_115 hl (k := 0) rfl (by decide) rfl (fun ls hl => ?_)
      have hl : lv_has ls 6 [(5, .int (zI 3)), (4, .int (zI ((ev - 1) * 8))), (3, .int (zI (ev - 1))), (0, .ref (ad 18)), (1, .ref (ad (26 + v.toNat))), (2, .int (zI inst))] := hl
      refine lv_goto (tgt := 92) C.1 C.2.1 d_Journal_writeOutcome_118 (by decide) ?_
      refine lv_iload C.1 C.2.1 d_Journal_writeOutcome_92 (lv_at hl 0 rfl) ?_
      refine zx_iconst C.1 C.2.1 d_Journal_writeOutcome_94 ?_
      refine zx_icmp_ge (tgt := 121) C.1 C.2.1 d_Journal_writeOutcome_95 (by decide) (by decide) (fun c_10 => absurd c_10 (by decide)) (fun _ => ?_)
      refine lv_aload_n C.1 C.2.1 d_Journal_writeOutcome_98 rfl (lv_at hl 3 rfl) ?_
      refine gf_Journal_15 C hK hE d_Journal_writeOutcome_99 ?_
      refine lv_iload_n C.1 C.2.1 d_Journal_writeOutcome_102 rfl (lv_at hl 2 rfl) ?_
      refine zx_iconst C.1 C.2.1 d_Journal_writeOutcome_103 ?_
      refine zx_imul C.1 C.2.1 d_Journal_writeOutcome_104 ?_
      refine lv_iload C.1 C.2.1 d_Journal_writeOutcome_105 (lv_at hl 0 rfl) ?_
      refine zx_iadd C.1 C.2.1 d_Journal_writeOutcome_107 ?_
      refine lv_aload_n C.1 C.2.1 d_Journal_writeOutcome_108 rfl (lv_at hl 4 rfl) ?_
      refine lv_iload C.1 C.2.1 d_Journal_writeOutcome_109 (lv_at hl 0 rfl) ?_
      refine E_calli hsz hE (va_runV (As := [.int (zI 3)]) (rest := [.int (zI (((ev - 1) * 4) + 3)), .ref (ad 20)]) C (c_Troubles_codeOrNone l D cI cZ cQ ad H.size T M Cc ((iup (iup (iup (iup fld (((ev - 1) * 8) + 4) (f_Troubles_status Ls v)) (((ev - 1) * 8) + 5) (f_Troubles_firstCode Ls v)) (((ev - 1) * 8) + 6) (f_Troubles_sizeBehindFirst Ls v)) (((ev - 1) * 8) + 7) inst), (iup (iup (iup jco (((ev - 1) * 4) + 0) (f_Troubles_codeOrNone Ls v 0)) (((ev - 1) * 4) + 1) (f_Troubles_codeOrNone Ls v 1)) (((ev - 1) * 4) + 2) (f_Troubles_codeOrNone Ls v 2)), rbs, ev, sk, tc, fa) Rr Ls v 3 (show 0 ≤ v ∧ v < 5 by omega) hLz (show 0 ≤ 3 ∧ 3 < 4 by omega)) (E_cwV C.2.2.2.2 lw_good cw_Journal_63 rfl rfl hd_Troubles_codeOrNone ⟨Nat.le_of_ble_eq_true rfl, Nat.le_of_ble_eq_true rfl⟩) (E_preV hK hE (q := (R_Troubles, F_Troubles, 3)) (ci := 5) (q0 := (26 + v.toNat)) rfl (wE_T (by omega))) rfl rfl hl.1 rfl (lv_room (Nat.le_of_ble_eq_true rfl)) d_Journal_writeOutcome_111 ⟨Nat.zero_le _, Nat.zero_le _⟩) (fun r u H locs hw hE => ?_)
      subst hw
      refine as_jco C hK hE (by omega) d_Journal_writeOutcome_114 (fun H locs hE => ?_)
      have hE : EW D vwCl (AE (adL ad) sz) (wE cI cZ cQ ad T M Cc ((iup (iup (iup (iup fld (((ev - 1) * 8) + 4) (f_Troubles_status Ls v)) (((ev - 1) * 8) + 5) (f_Troubles_firstCode Ls v)) (((ev - 1) * 8) + 6) (f_Troubles_sizeBehindFirst Ls v)) (((ev - 1) * 8) + 7) inst), (iup (iup (iup (iup jco (((ev - 1) * 4) + 0) (f_Troubles_codeOrNone Ls v 0)) (((ev - 1) * 4) + 1) (f_Troubles_codeOrNone Ls v 1)) (((ev - 1) * 4) + 2) (f_Troubles_codeOrNone Ls v 2)) (((ev - 1) * 4) + 3) (f_Troubles_codeOrNone Ls v 3)), rbs, ev, sk, tc, fa) Rr Ls) s.heap H locs := hE
      refine zx_iinc (lv' := [(5, .int (zI (3 + 1))), (4, .int (zI ((ev - 1) * 8))), (3, .int (zI (ev - 1))), (0, .ref (ad 18)), (1, .ref (ad (26 + v.toNat))), (2, .int (zI inst))]) C.1 C.2.1 d_Journal_writeOutcome_115 hl (k := 0) rfl (by decide) rfl (fun ls hl => ?_)
      have hl : lv_has ls 6 [(5, .int (zI 4)), (4, .int (zI ((ev - 1) * 8))), (3, .int (zI (ev - 1))), (0, .ref (ad 18)), (1, .ref (ad (26 + v.toNat))), (2, .int (zI inst))] := hl
      refine lv_goto (tgt := 92) C.1 C.2.1 d_Journal_writeOutcome_118 (by decide) ?_
      refine lv_iload C.1 C.2.1 d_Journal_writeOutcome_92 (lv_at hl 0 rfl) ?_
      refine zx_iconst C.1 C.2.1 d_Journal_writeOutcome_94 ?_
      refine zx_icmp_ge (tgt := 121) C.1 C.2.1 d_Journal_writeOutcome_95 (by decide) (by decide) (fun _ => ?_) (fun c_11 => absurd c_11 (by decide))
      rw [show f_Journal_writeOutcome (fld, jco, rbs, ev, sk, tc, fa) Ls v inst = ((iup (iup (iup (iup fld (((ev - 1) * 8) + 4) (f_Troubles_status Ls v)) (((ev - 1) * 8) + 5) (f_Troubles_firstCode Ls v)) (((ev - 1) * 8) + 6) (f_Troubles_sizeBehindFirst Ls v)) (((ev - 1) * 8) + 7) inst), (iup (iup (iup (iup jco (((ev - 1) * 4) + 0) (f_Troubles_codeOrNone Ls v 0)) (((ev - 1) * 4) + 1) (f_Troubles_codeOrNone Ls v 1)) (((ev - 1) * 4) + 2) (f_Troubles_codeOrNone Ls v 2)) (((ev - 1) * 4) + 3) (f_Troubles_codeOrNone Ls v 3)), rbs, ev, sk, tc, fa) from by simp only [f_Journal_writeOutcome, if_neg c_2, if_neg c_4]]
      exact E_vret C hr hlk () hE trivial d_Journal_writeOutcome_121
    · have hn_12 := isWithin_f c_4
      rw [show f_Journal_writeOutcome (fld, jco, rbs, ev, sk, tc, fa) Ls v inst = (fld, jco, rbs, ev, sk, tc, fa) from by simp only [f_Journal_writeOutcome, if_neg c_2, if_pos c_4]]
      exact E_vret C hr hlk () hE trivial d_Journal_writeOutcome_31
  · refine lv_aload_n C.1 C.2.1 d_Journal_writeOutcome_8 rfl (lv_at hl 0 rfl) ?_
    refine zx_iconst C.1 C.2.1 d_Journal_writeOutcome_9 ?_
    refine pf_Journal_31 C hK hE (by omega) d_Journal_writeOutcome_10 (fun H locs hE => ?_)
    have hE : EW D vwCl (AE (adL ad) sz) (wE cI cZ cQ ad T M Cc (fld, jco, rbs, ev, sk, tc, 1) Rr Ls) s.heap H locs := hE
    refine lv_aload_n C.1 C.2.1 d_Journal_writeOutcome_13 rfl (lv_at hl 0 rfl) ?_
    refine gf_Journal_21 (x := ev) C hK hE rfl d_Journal_writeOutcome_14 ?_
    refine zx_iconst C.1 C.2.1 d_Journal_writeOutcome_17 ?_
    refine zx_isub C.1 C.2.1 d_Journal_writeOutcome_18 ?_
    refine lv_istore_n (lv' := [(3, .int (zI (ev - 1))), (0, .ref (ad 18)), (1, .ref (ad (26 + v.toNat))), (2, .int (zI inst))]) C.1 C.2.1 d_Journal_writeOutcome_19 rfl hl (by decide) rfl (fun ls hl => ?_)
    refine lv_iload_n C.1 C.2.1 d_Journal_writeOutcome_20 rfl (lv_at hl 0 rfl) ?_
    refine zx_iconst C.1 C.2.1 d_Journal_writeOutcome_21 ?_
    refine zx_sipush C.1 C.2.1 d_Journal_writeOutcome_22 (by decide) ?_
    refine E_calli hsz hE (va_runSN (As := [.int (zI (ev - 1)), .int (zI 0), .int (zI 149)]) (rest := []) C (c_Engine_isWithin l D cI cZ cQ H.size (wE cI cZ cQ ad T M Cc (fld, jco, rbs, ev, sk, tc, 1) Rr Ls) (adL ad) wE_L (ev - 1) 0 149 (show -2147483648 ≤ (ev - 1) ∧ (ev - 1) < 2147483648 by omega) (show -2147483648 ≤ 0 ∧ 0 < 2147483648 by omega) (show -2147483648 ≤ 149 ∧ 149 < 2147483648 by omega)) (E_cwN C.2.2.2.2 lw_good hK.2.2.1 cn_Engine_isWithin rfl rfl hd_Engine_isWithin ⟨Nat.le_of_ble_eq_true rfl, Nat.le_of_ble_eq_true rfl⟩) (E_preS hK hE) rfl rfl hl.1 rfl (lv_room (Nat.le_of_ble_eq_true rfl)) d_Journal_writeOutcome_25 ⟨Nat.zero_le _, Nat.zero_le _⟩) (fun r u H locs hw hE => ?_)
    subst hw
    have hb_13 := f_Engine_isWithin_rg (ev - 1) 0 149
    refine zx_if_ne (tgt := 32) C.1 C.2.1 d_Journal_writeOutcome_28 (by decide) (by omega) (fun c_14 => ?_) (fun c_14 => ?_)
    · have hn_15 := isWithin_t c_14
      refine lv_iload_n C.1 C.2.1 d_Journal_writeOutcome_32 rfl (lv_at hl 0 rfl) ?_
      refine zx_bipush C.1 C.2.1 d_Journal_writeOutcome_33 (by decide) ?_
      refine zx_imul C.1 C.2.1 d_Journal_writeOutcome_35 ?_
      refine lv_istore (lv' := [(4, .int (zI ((ev - 1) * 8))), (3, .int (zI (ev - 1))), (0, .ref (ad 18)), (1, .ref (ad (26 + v.toNat))), (2, .int (zI inst))]) C.1 C.2.1 d_Journal_writeOutcome_36 hl (by decide) rfl (fun ls hl => ?_)
      refine lv_aload_n C.1 C.2.1 d_Journal_writeOutcome_38 rfl (lv_at hl 2 rfl) ?_
      refine gf_Journal_9 C hK hE d_Journal_writeOutcome_39 ?_
      refine lv_iload C.1 C.2.1 d_Journal_writeOutcome_42 (lv_at hl 0 rfl) ?_
      refine zx_iconst C.1 C.2.1 d_Journal_writeOutcome_44 ?_
      refine zx_iadd C.1 C.2.1 d_Journal_writeOutcome_45 ?_
      refine lv_aload_n C.1 C.2.1 d_Journal_writeOutcome_46 rfl (lv_at hl 3 rfl) ?_
      refine E_calli hsz hE (va_runV (As := []) (rest := [.int (zI (((ev - 1) * 8) + 4)), .ref (ad 19)]) C (c_Troubles_status l D cI cZ cQ ad H.size T M Cc (fld, jco, rbs, ev, sk, tc, 1) Rr Ls v (show 0 ≤ v ∧ v < 5 by omega) hLz hLg) (E_cwV C.2.2.2.2 lw_good cw_Journal_49 rfl rfl hd_Troubles_status ⟨Nat.le_of_ble_eq_true rfl, Nat.le_of_ble_eq_true rfl⟩) (E_preV hK hE (q := (R_Troubles, F_Troubles, 3)) (ci := 5) (q0 := (26 + v.toNat)) rfl (wE_T (by omega))) rfl rfl hl.1 rfl (lv_room (Nat.le_of_ble_eq_true rfl)) d_Journal_writeOutcome_47 ⟨Nat.zero_le _, Nat.zero_le _⟩) (fun r u H locs hw hE => ?_)
      subst hw
      have hb_16 := status_rg Ls v
      refine as_fld C hK hE (by omega) d_Journal_writeOutcome_50 (fun H locs hE => ?_)
      have hE : EW D vwCl (AE (adL ad) sz) (wE cI cZ cQ ad T M Cc ((iup fld (((ev - 1) * 8) + 4) (f_Troubles_status Ls v)), jco, rbs, ev, sk, tc, 1) Rr Ls) s.heap H locs := hE
      refine lv_aload_n C.1 C.2.1 d_Journal_writeOutcome_51 rfl (lv_at hl 2 rfl) ?_
      refine gf_Journal_9 C hK hE d_Journal_writeOutcome_52 ?_
      refine lv_iload C.1 C.2.1 d_Journal_writeOutcome_55 (lv_at hl 0 rfl) ?_
      refine zx_iconst C.1 C.2.1 d_Journal_writeOutcome_57 ?_
      refine zx_iadd C.1 C.2.1 d_Journal_writeOutcome_58 ?_
      refine lv_aload_n C.1 C.2.1 d_Journal_writeOutcome_59 rfl (lv_at hl 3 rfl) ?_
      refine E_calli hsz hE (va_runV (As := []) (rest := [.int (zI (((ev - 1) * 8) + 5)), .ref (ad 19)]) C (c_Troubles_firstCode l D cI cZ cQ ad H.size T M Cc ((iup fld (((ev - 1) * 8) + 4) (f_Troubles_status Ls v)), jco, rbs, ev, sk, tc, 1) Rr Ls v (show 0 ≤ v ∧ v < 5 by omega) hLz) (E_cwV C.2.2.2.2 lw_good cw_Journal_57 rfl rfl hd_Troubles_firstCode ⟨Nat.le_of_ble_eq_true rfl, Nat.le_of_ble_eq_true rfl⟩) (E_preV hK hE (q := (R_Troubles, F_Troubles, 3)) (ci := 5) (q0 := (26 + v.toNat)) rfl (wE_T (by omega))) rfl rfl hl.1 rfl (lv_room (Nat.le_of_ble_eq_true rfl)) d_Journal_writeOutcome_60 ⟨Nat.zero_le _, Nat.zero_le _⟩) (fun r u H locs hw hE => ?_)
      subst hw
      refine as_fld C hK hE (by omega) d_Journal_writeOutcome_63 (fun H locs hE => ?_)
      have hE : EW D vwCl (AE (adL ad) sz) (wE cI cZ cQ ad T M Cc ((iup (iup fld (((ev - 1) * 8) + 4) (f_Troubles_status Ls v)) (((ev - 1) * 8) + 5) (f_Troubles_firstCode Ls v)), jco, rbs, ev, sk, tc, 1) Rr Ls) s.heap H locs := hE
      refine lv_aload_n C.1 C.2.1 d_Journal_writeOutcome_64 rfl (lv_at hl 2 rfl) ?_
      refine gf_Journal_9 C hK hE d_Journal_writeOutcome_65 ?_
      refine lv_iload C.1 C.2.1 d_Journal_writeOutcome_68 (lv_at hl 0 rfl) ?_
      refine zx_bipush C.1 C.2.1 d_Journal_writeOutcome_70 (by decide) ?_
      refine zx_iadd C.1 C.2.1 d_Journal_writeOutcome_72 ?_
      refine lv_aload_n C.1 C.2.1 d_Journal_writeOutcome_73 rfl (lv_at hl 3 rfl) ?_
      refine E_calli hsz hE (va_runV (As := []) (rest := [.int (zI (((ev - 1) * 8) + 6)), .ref (ad 19)]) C (c_Troubles_sizeBehindFirst l D cI cZ cQ ad H.size T M Cc ((iup (iup fld (((ev - 1) * 8) + 4) (f_Troubles_status Ls v)) (((ev - 1) * 8) + 5) (f_Troubles_firstCode Ls v)), jco, rbs, ev, sk, tc, 1) Rr Ls v (show 0 ≤ v ∧ v < 5 by omega) hLz) (E_cwV C.2.2.2.2 lw_good cw_Journal_60 rfl rfl hd_Troubles_sizeBehindFirst ⟨Nat.le_of_ble_eq_true rfl, Nat.le_of_ble_eq_true rfl⟩) (E_preV hK hE (q := (R_Troubles, F_Troubles, 3)) (ci := 5) (q0 := (26 + v.toNat)) rfl (wE_T (by omega))) rfl rfl hl.1 rfl (lv_room (Nat.le_of_ble_eq_true rfl)) d_Journal_writeOutcome_74 ⟨Nat.zero_le _, Nat.zero_le _⟩) (fun r u H locs hw hE => ?_)
      subst hw
      refine as_fld C hK hE (by omega) d_Journal_writeOutcome_77 (fun H locs hE => ?_)
      have hE : EW D vwCl (AE (adL ad) sz) (wE cI cZ cQ ad T M Cc ((iup (iup (iup fld (((ev - 1) * 8) + 4) (f_Troubles_status Ls v)) (((ev - 1) * 8) + 5) (f_Troubles_firstCode Ls v)) (((ev - 1) * 8) + 6) (f_Troubles_sizeBehindFirst Ls v)), jco, rbs, ev, sk, tc, 1) Rr Ls) s.heap H locs := hE
      refine lv_aload_n C.1 C.2.1 d_Journal_writeOutcome_78 rfl (lv_at hl 2 rfl) ?_
      refine gf_Journal_9 C hK hE d_Journal_writeOutcome_79 ?_
      refine lv_iload C.1 C.2.1 d_Journal_writeOutcome_82 (lv_at hl 0 rfl) ?_
      refine zx_bipush C.1 C.2.1 d_Journal_writeOutcome_84 (by decide) ?_
      refine zx_iadd C.1 C.2.1 d_Journal_writeOutcome_86 ?_
      refine lv_iload_n C.1 C.2.1 d_Journal_writeOutcome_87 rfl (lv_at hl 4 rfl) ?_
      refine as_fld C hK hE (by omega) d_Journal_writeOutcome_88 (fun H locs hE => ?_)
      have hE : EW D vwCl (AE (adL ad) sz) (wE cI cZ cQ ad T M Cc ((iup (iup (iup (iup fld (((ev - 1) * 8) + 4) (f_Troubles_status Ls v)) (((ev - 1) * 8) + 5) (f_Troubles_firstCode Ls v)) (((ev - 1) * 8) + 6) (f_Troubles_sizeBehindFirst Ls v)) (((ev - 1) * 8) + 7) inst), jco, rbs, ev, sk, tc, 1) Rr Ls) s.heap H locs := hE
      refine zx_iconst C.1 C.2.1 d_Journal_writeOutcome_89 ?_
      refine lv_istore (lv' := [(5, .int (zI 0)), (4, .int (zI ((ev - 1) * 8))), (3, .int (zI (ev - 1))), (0, .ref (ad 18)), (1, .ref (ad (26 + v.toNat))), (2, .int (zI inst))]) C.1 C.2.1 d_Journal_writeOutcome_90 hl (by decide) rfl (fun ls hl => ?_)
      refine lv_iload C.1 C.2.1 d_Journal_writeOutcome_92 (lv_at hl 0 rfl) ?_
      refine zx_iconst C.1 C.2.1 d_Journal_writeOutcome_94 ?_
      refine zx_icmp_ge (tgt := 121) C.1 C.2.1 d_Journal_writeOutcome_95 (by decide) (by decide) (fun c_17 => absurd c_17 (by decide)) (fun _ => ?_)
      refine lv_aload_n C.1 C.2.1 d_Journal_writeOutcome_98 rfl (lv_at hl 3 rfl) ?_
      refine gf_Journal_15 C hK hE d_Journal_writeOutcome_99 ?_
      refine lv_iload_n C.1 C.2.1 d_Journal_writeOutcome_102 rfl (lv_at hl 2 rfl) ?_
      refine zx_iconst C.1 C.2.1 d_Journal_writeOutcome_103 ?_
      refine zx_imul C.1 C.2.1 d_Journal_writeOutcome_104 ?_
      refine lv_iload C.1 C.2.1 d_Journal_writeOutcome_105 (lv_at hl 0 rfl) ?_
      refine zx_iadd C.1 C.2.1 d_Journal_writeOutcome_107 ?_
      refine lv_aload_n C.1 C.2.1 d_Journal_writeOutcome_108 rfl (lv_at hl 4 rfl) ?_
      refine lv_iload C.1 C.2.1 d_Journal_writeOutcome_109 (lv_at hl 0 rfl) ?_
      refine E_calli hsz hE (va_runV (As := [.int (zI 0)]) (rest := [.int (zI (((ev - 1) * 4) + 0)), .ref (ad 20)]) C (c_Troubles_codeOrNone l D cI cZ cQ ad H.size T M Cc ((iup (iup (iup (iup fld (((ev - 1) * 8) + 4) (f_Troubles_status Ls v)) (((ev - 1) * 8) + 5) (f_Troubles_firstCode Ls v)) (((ev - 1) * 8) + 6) (f_Troubles_sizeBehindFirst Ls v)) (((ev - 1) * 8) + 7) inst), jco, rbs, ev, sk, tc, 1) Rr Ls v 0 (show 0 ≤ v ∧ v < 5 by omega) hLz (show 0 ≤ 0 ∧ 0 < 4 by omega)) (E_cwV C.2.2.2.2 lw_good cw_Journal_63 rfl rfl hd_Troubles_codeOrNone ⟨Nat.le_of_ble_eq_true rfl, Nat.le_of_ble_eq_true rfl⟩) (E_preV hK hE (q := (R_Troubles, F_Troubles, 3)) (ci := 5) (q0 := (26 + v.toNat)) rfl (wE_T (by omega))) rfl rfl hl.1 rfl (lv_room (Nat.le_of_ble_eq_true rfl)) d_Journal_writeOutcome_111 ⟨Nat.zero_le _, Nat.zero_le _⟩) (fun r u H locs hw hE => ?_)
      subst hw
      refine as_jco C hK hE (by omega) d_Journal_writeOutcome_114 (fun H locs hE => ?_)
      have hE : EW D vwCl (AE (adL ad) sz) (wE cI cZ cQ ad T M Cc ((iup (iup (iup (iup fld (((ev - 1) * 8) + 4) (f_Troubles_status Ls v)) (((ev - 1) * 8) + 5) (f_Troubles_firstCode Ls v)) (((ev - 1) * 8) + 6) (f_Troubles_sizeBehindFirst Ls v)) (((ev - 1) * 8) + 7) inst), (iup jco (((ev - 1) * 4) + 0) (f_Troubles_codeOrNone Ls v 0)), rbs, ev, sk, tc, 1) Rr Ls) s.heap H locs := hE
      refine zx_iinc (lv' := [(5, .int (zI (0 + 1))), (4, .int (zI ((ev - 1) * 8))), (3, .int (zI (ev - 1))), (0, .ref (ad 18)), (1, .ref (ad (26 + v.toNat))), (2, .int (zI inst))]) C.1 C.2.1 d_Journal_writeOutcome_115 hl (k := 0) rfl (by decide) rfl (fun ls hl => ?_)
      have hl : lv_has ls 6 [(5, .int (zI 1)), (4, .int (zI ((ev - 1) * 8))), (3, .int (zI (ev - 1))), (0, .ref (ad 18)), (1, .ref (ad (26 + v.toNat))), (2, .int (zI inst))] := hl
      refine lv_goto (tgt := 92) C.1 C.2.1 d_Journal_writeOutcome_118 (by decide) ?_
      refine lv_iload C.1 C.2.1 d_Journal_writeOutcome_92 (lv_at hl 0 rfl) ?_
      refine zx_iconst C.1 C.2.1 d_Journal_writeOutcome_94 ?_
      refine zx_icmp_ge (tgt := 121) C.1 C.2.1 d_Journal_writeOutcome_95 (by decide) (by decide) (fun c_18 => absurd c_18 (by decide)) (fun _ => ?_)
      refine lv_aload_n C.1 C.2.1 d_Journal_writeOutcome_98 rfl (lv_at hl 3 rfl) ?_
      refine gf_Journal_15 C hK hE d_Journal_writeOutcome_99 ?_
      refine lv_iload_n C.1 C.2.1 d_Journal_writeOutcome_102 rfl (lv_at hl 2 rfl) ?_
      refine zx_iconst C.1 C.2.1 d_Journal_writeOutcome_103 ?_
      refine zx_imul C.1 C.2.1 d_Journal_writeOutcome_104 ?_
      refine lv_iload C.1 C.2.1 d_Journal_writeOutcome_105 (lv_at hl 0 rfl) ?_
      refine zx_iadd C.1 C.2.1 d_Journal_writeOutcome_107 ?_
      refine lv_aload_n C.1 C.2.1 d_Journal_writeOutcome_108 rfl (lv_at hl 4 rfl) ?_
      refine lv_iload C.1 C.2.1 d_Journal_writeOutcome_109 (lv_at hl 0 rfl) ?_
      refine E_calli hsz hE (va_runV (As := [.int (zI 1)]) (rest := [.int (zI (((ev - 1) * 4) + 1)), .ref (ad 20)]) C (c_Troubles_codeOrNone l D cI cZ cQ ad H.size T M Cc ((iup (iup (iup (iup fld (((ev - 1) * 8) + 4) (f_Troubles_status Ls v)) (((ev - 1) * 8) + 5) (f_Troubles_firstCode Ls v)) (((ev - 1) * 8) + 6) (f_Troubles_sizeBehindFirst Ls v)) (((ev - 1) * 8) + 7) inst), (iup jco (((ev - 1) * 4) + 0) (f_Troubles_codeOrNone Ls v 0)), rbs, ev, sk, tc, 1) Rr Ls v 1 (show 0 ≤ v ∧ v < 5 by omega) hLz (show 0 ≤ 1 ∧ 1 < 4 by omega)) (E_cwV C.2.2.2.2 lw_good cw_Journal_63 rfl rfl hd_Troubles_codeOrNone ⟨Nat.le_of_ble_eq_true rfl, Nat.le_of_ble_eq_true rfl⟩) (E_preV hK hE (q := (R_Troubles, F_Troubles, 3)) (ci := 5) (q0 := (26 + v.toNat)) rfl (wE_T (by omega))) rfl rfl hl.1 rfl (lv_room (Nat.le_of_ble_eq_true rfl)) d_Journal_writeOutcome_111 ⟨Nat.zero_le _, Nat.zero_le _⟩) (fun r u H locs hw hE => ?_)
      subst hw
      refine as_jco C hK hE (by omega) d_Journal_writeOutcome_114 (fun H locs hE => ?_)
      have hE : EW D vwCl (AE (adL ad) sz) (wE cI cZ cQ ad T M Cc ((iup (iup (iup (iup fld (((ev - 1) * 8) + 4) (f_Troubles_status Ls v)) (((ev - 1) * 8) + 5) (f_Troubles_firstCode Ls v)) (((ev - 1) * 8) + 6) (f_Troubles_sizeBehindFirst Ls v)) (((ev - 1) * 8) + 7) inst), (iup (iup jco (((ev - 1) * 4) + 0) (f_Troubles_codeOrNone Ls v 0)) (((ev - 1) * 4) + 1) (f_Troubles_codeOrNone Ls v 1)), rbs, ev, sk, tc, 1) Rr Ls) s.heap H locs := hE
      refine zx_iinc (lv' := [(5, .int (zI (1 + 1))), (4, .int (zI ((ev - 1) * 8))), (3, .int (zI (ev - 1))), (0, .ref (ad 18)), (1, .ref (ad (26 + v.toNat))), (2, .int (zI inst))]) C.1 C.2.1 d_Journal_writeOutcome_115 hl (k := 0) rfl (by decide) rfl (fun ls hl => ?_)
      have hl : lv_has ls 6 [(5, .int (zI 2)), (4, .int (zI ((ev - 1) * 8))), (3, .int (zI (ev - 1))), (0, .ref (ad 18)), (1, .ref (ad (26 + v.toNat))), (2, .int (zI inst))] := hl
      refine lv_goto (tgt := 92) C.1 C.2.1 d_Journal_writeOutcome_118 (by decide) ?_
      refine lv_iload C.1 C.2.1 d_Journal_writeOutcome_92 (lv_at hl 0 rfl) ?_
      refine zx_iconst C.1 C.2.1 d_Journal_writeOutcome_94 ?_
      refine zx_icmp_ge (tgt := 121) C.1 C.2.1 d_Journal_writeOutcome_95 (by decide) (by decide) (fun c_19 => absurd c_19 (by decide)) (fun _ => ?_)
      refine lv_aload_n C.1 C.2.1 d_Journal_writeOutcome_98 rfl (lv_at hl 3 rfl) ?_
      refine gf_Journal_15 C hK hE d_Journal_writeOutcome_99 ?_
      refine lv_iload_n C.1 C.2.1 d_Journal_writeOutcome_102 rfl (lv_at hl 2 rfl) ?_
      refine zx_iconst C.1 C.2.1 d_Journal_writeOutcome_103 ?_
      refine zx_imul C.1 C.2.1 d_Journal_writeOutcome_104 ?_
      refine lv_iload C.1 C.2.1 d_Journal_writeOutcome_105 (lv_at hl 0 rfl) ?_
      refine zx_iadd C.1 C.2.1 d_Journal_writeOutcome_107 ?_
      refine lv_aload_n C.1 C.2.1 d_Journal_writeOutcome_108 rfl (lv_at hl 4 rfl) ?_
      refine lv_iload C.1 C.2.1 d_Journal_writeOutcome_109 (lv_at hl 0 rfl) ?_
      refine E_calli hsz hE (va_runV (As := [.int (zI 2)]) (rest := [.int (zI (((ev - 1) * 4) + 2)), .ref (ad 20)]) C (c_Troubles_codeOrNone l D cI cZ cQ ad H.size T M Cc ((iup (iup (iup (iup fld (((ev - 1) * 8) + 4) (f_Troubles_status Ls v)) (((ev - 1) * 8) + 5) (f_Troubles_firstCode Ls v)) (((ev - 1) * 8) + 6) (f_Troubles_sizeBehindFirst Ls v)) (((ev - 1) * 8) + 7) inst), (iup (iup jco (((ev - 1) * 4) + 0) (f_Troubles_codeOrNone Ls v 0)) (((ev - 1) * 4) + 1) (f_Troubles_codeOrNone Ls v 1)), rbs, ev, sk, tc, 1) Rr Ls v 2 (show 0 ≤ v ∧ v < 5 by omega) hLz (show 0 ≤ 2 ∧ 2 < 4 by omega)) (E_cwV C.2.2.2.2 lw_good cw_Journal_63 rfl rfl hd_Troubles_codeOrNone ⟨Nat.le_of_ble_eq_true rfl, Nat.le_of_ble_eq_true rfl⟩) (E_preV hK hE (q := (R_Troubles, F_Troubles, 3)) (ci := 5) (q0 := (26 + v.toNat)) rfl (wE_T (by omega))) rfl rfl hl.1 rfl (lv_room (Nat.le_of_ble_eq_true rfl)) d_Journal_writeOutcome_111 ⟨Nat.zero_le _, Nat.zero_le _⟩) (fun r u H locs hw hE => ?_)
      subst hw
      refine as_jco C hK hE (by omega) d_Journal_writeOutcome_114 (fun H locs hE => ?_)
      have hE : EW D vwCl (AE (adL ad) sz) (wE cI cZ cQ ad T M Cc ((iup (iup (iup (iup fld (((ev - 1) * 8) + 4) (f_Troubles_status Ls v)) (((ev - 1) * 8) + 5) (f_Troubles_firstCode Ls v)) (((ev - 1) * 8) + 6) (f_Troubles_sizeBehindFirst Ls v)) (((ev - 1) * 8) + 7) inst), (iup (iup (iup jco (((ev - 1) * 4) + 0) (f_Troubles_codeOrNone Ls v 0)) (((ev - 1) * 4) + 1) (f_Troubles_codeOrNone Ls v 1)) (((ev - 1) * 4) + 2) (f_Troubles_codeOrNone Ls v 2)), rbs, ev, sk, tc, 1) Rr Ls) s.heap H locs := hE
      refine zx_iinc (lv' := [(5, .int (zI (2 + 1))), (4, .int (zI ((ev - 1) * 8))), (3, .int (zI (ev - 1))), (0, .ref (ad 18)), (1, .ref (ad (26 + v.toNat))), (2, .int (zI inst))]) C.1 C.2.1 d_Journal_writeOutcome_115 hl (k := 0) rfl (by decide) rfl (fun ls hl => ?_)
      have hl : lv_has ls 6 [(5, .int (zI 3)), (4, .int (zI ((ev - 1) * 8))), (3, .int (zI (ev - 1))), (0, .ref (ad 18)), (1, .ref (ad (26 + v.toNat))), (2, .int (zI inst))] := hl
      refine lv_goto (tgt := 92) C.1 C.2.1 d_Journal_writeOutcome_118 (by decide) ?_
      refine lv_iload C.1 C.2.1 d_Journal_writeOutcome_92 (lv_at hl 0 rfl) ?_
      refine zx_iconst C.1 C.2.1 d_Journal_writeOutcome_94 ?_
      refine zx_icmp_ge (tgt := 121) C.1 C.2.1 d_Journal_writeOutcome_95 (by decide) (by decide) (fun c_20 => absurd c_20 (by decide)) (fun _ => ?_)
      refine lv_aload_n C.1 C.2.1 d_Journal_writeOutcome_98 rfl (lv_at hl 3 rfl) ?_
      refine gf_Journal_15 C hK hE d_Journal_writeOutcome_99 ?_
      refine lv_iload_n C.1 C.2.1 d_Journal_writeOutcome_102 rfl (lv_at hl 2 rfl) ?_
      refine zx_iconst C.1 C.2.1 d_Journal_writeOutcome_103 ?_
      refine zx_imul C.1 C.2.1 d_Journal_writeOutcome_104 ?_
      refine lv_iload C.1 C.2.1 d_Journal_writeOutcome_105 (lv_at hl 0 rfl) ?_
      refine zx_iadd C.1 C.2.1 d_Journal_writeOutcome_107 ?_
      refine lv_aload_n C.1 C.2.1 d_Journal_writeOutcome_108 rfl (lv_at hl 4 rfl) ?_
      refine lv_iload C.1 C.2.1 d_Journal_writeOutcome_109 (lv_at hl 0 rfl) ?_
      refine E_calli hsz hE (va_runV (As := [.int (zI 3)]) (rest := [.int (zI (((ev - 1) * 4) + 3)), .ref (ad 20)]) C (c_Troubles_codeOrNone l D cI cZ cQ ad H.size T M Cc ((iup (iup (iup (iup fld (((ev - 1) * 8) + 4) (f_Troubles_status Ls v)) (((ev - 1) * 8) + 5) (f_Troubles_firstCode Ls v)) (((ev - 1) * 8) + 6) (f_Troubles_sizeBehindFirst Ls v)) (((ev - 1) * 8) + 7) inst), (iup (iup (iup jco (((ev - 1) * 4) + 0) (f_Troubles_codeOrNone Ls v 0)) (((ev - 1) * 4) + 1) (f_Troubles_codeOrNone Ls v 1)) (((ev - 1) * 4) + 2) (f_Troubles_codeOrNone Ls v 2)), rbs, ev, sk, tc, 1) Rr Ls v 3 (show 0 ≤ v ∧ v < 5 by omega) hLz (show 0 ≤ 3 ∧ 3 < 4 by omega)) (E_cwV C.2.2.2.2 lw_good cw_Journal_63 rfl rfl hd_Troubles_codeOrNone ⟨Nat.le_of_ble_eq_true rfl, Nat.le_of_ble_eq_true rfl⟩) (E_preV hK hE (q := (R_Troubles, F_Troubles, 3)) (ci := 5) (q0 := (26 + v.toNat)) rfl (wE_T (by omega))) rfl rfl hl.1 rfl (lv_room (Nat.le_of_ble_eq_true rfl)) d_Journal_writeOutcome_111 ⟨Nat.zero_le _, Nat.zero_le _⟩) (fun r u H locs hw hE => ?_)
      subst hw
      refine as_jco C hK hE (by omega) d_Journal_writeOutcome_114 (fun H locs hE => ?_)
      have hE : EW D vwCl (AE (adL ad) sz) (wE cI cZ cQ ad T M Cc ((iup (iup (iup (iup fld (((ev - 1) * 8) + 4) (f_Troubles_status Ls v)) (((ev - 1) * 8) + 5) (f_Troubles_firstCode Ls v)) (((ev - 1) * 8) + 6) (f_Troubles_sizeBehindFirst Ls v)) (((ev - 1) * 8) + 7) inst), (iup (iup (iup (iup jco (((ev - 1) * 4) + 0) (f_Troubles_codeOrNone Ls v 0)) (((ev - 1) * 4) + 1) (f_Troubles_codeOrNone Ls v 1)) (((ev - 1) * 4) + 2) (f_Troubles_codeOrNone Ls v 2)) (((ev - 1) * 4) + 3) (f_Troubles_codeOrNone Ls v 3)), rbs, ev, sk, tc, 1) Rr Ls) s.heap H locs := hE
      refine zx_iinc (lv' := [(5, .int (zI (3 + 1))), (4, .int (zI ((ev - 1) * 8))), (3, .int (zI (ev - 1))), (0, .ref (ad 18)), (1, .ref (ad (26 + v.toNat))), (2, .int (zI inst))]) C.1 C.2.1 d_Journal_writeOutcome_115 hl (k := 0) rfl (by decide) rfl (fun ls hl => ?_)
      have hl : lv_has ls 6 [(5, .int (zI 4)), (4, .int (zI ((ev - 1) * 8))), (3, .int (zI (ev - 1))), (0, .ref (ad 18)), (1, .ref (ad (26 + v.toNat))), (2, .int (zI inst))] := hl
      refine lv_goto (tgt := 92) C.1 C.2.1 d_Journal_writeOutcome_118 (by decide) ?_
      refine lv_iload C.1 C.2.1 d_Journal_writeOutcome_92 (lv_at hl 0 rfl) ?_
      refine zx_iconst C.1 C.2.1 d_Journal_writeOutcome_94 ?_
      refine zx_icmp_ge (tgt := 121) C.1 C.2.1 d_Journal_writeOutcome_95 (by decide) (by decide) (fun _ => ?_) (fun c_21 => absurd c_21 (by decide))
      rw [show f_Journal_writeOutcome (fld, jco, rbs, ev, sk, tc, fa) Ls v inst = ((iup (iup (iup (iup fld (((ev - 1) * 8) + 4) (f_Troubles_status Ls v)) (((ev - 1) * 8) + 5) (f_Troubles_firstCode Ls v)) (((ev - 1) * 8) + 6) (f_Troubles_sizeBehindFirst Ls v)) (((ev - 1) * 8) + 7) inst), (iup (iup (iup (iup jco (((ev - 1) * 4) + 0) (f_Troubles_codeOrNone Ls v 0)) (((ev - 1) * 4) + 1) (f_Troubles_codeOrNone Ls v 1)) (((ev - 1) * 4) + 2) (f_Troubles_codeOrNone Ls v 2)) (((ev - 1) * 4) + 3) (f_Troubles_codeOrNone Ls v 3)), rbs, ev, sk, tc, 1) from by simp only [f_Journal_writeOutcome, if_pos c_2, if_neg c_14]]
      exact E_vret C hr hlk () hE trivial d_Journal_writeOutcome_121
    · have hn_22 := isWithin_f c_14
      rw [show f_Journal_writeOutcome (fld, jco, rbs, ev, sk, tc, fa) Ls v inst = (fld, jco, rbs, ev, sk, tc, 1) from by simp only [f_Journal_writeOutcome, if_pos c_2, if_pos c_14]]
      exact E_vret C hr hlk () hE trivial d_Journal_writeOutcome_31

theorem writeEvent_ev (J : JSt) (kind node round time : Int) : g_ev (f_Journal_writeEvent J kind node round time) = g_ev J + 1 := by
  unfold f_Journal_writeEvent
  dsimp only
  split <;> rfl
def f_Journal_writeContainerFinished (J : JSt) (Ls : LSt) (node : Int) (time : Int) (v : Int) (inst : Int) : JSt := if (f_Troubles_isEmpty Ls v) = 0 then (f_Journal_writeOutcome (f_Journal_writeEvent ((g_fld J), (g_jco J), (g_rbs J), (g_ev J), (g_sk J), ((g_tc J) + 1), (g_fa J)) 2 node 0 time) Ls v inst) else (f_Journal_writeOutcome (f_Journal_writeEvent J 2 node 0 time) Ls v inst)
set_option maxHeartbeats 4000000 in
set_option maxRecDepth 100000 in
theorem c_Journal_writeContainerFinished (l : Launch) (D : va_G) (cI cZ cQ : ClassId) (ad : Nat → Nat) (sz : Nat) (T : TSt) (M : MSt) (Cc : CSt) (J : JSt) (Rr : RSt) (Ls : LSt) (node : Int) (time : Int) (v : Int) (inst : Int) (hl_v : 0 ≤ v ∧ v < 5) (hLz : ∀ k, 0 ≤ g_lz Ls k ∧ g_lz Ls k < 1000000000) (hLg : ∀ k, g_lg Ls k = 0 ∨ g_lg Ls k = 1) (hev : 0 ≤ g_ev J ∧ g_ev J < 900000000) : Met l y_Journal_writeContainerFinished (Cond.code y_Journal_writeContainerFinished b_Journal_writeContainerFinished 5 none :: Wl) { frames := 2, cells := 0, slots := 0, locals := 47 } (PE D vwCl (tyE cI cZ cQ) (wE cI cZ cQ ad T M Cc J Rr Ls) sz [.ref (ad 18), .int (zI node), .int (zI time), .ref (ad (26 + v.toNat)), .int (zI inst)]) (QEv D vwCl (adL ad) sz (fun (_ : Unit) => True) (fun (_ : Unit) => (wE cI cZ cQ ad T M Cc (f_Journal_writeContainerFinished J Ls node time v inst) Rr Ls))) 0 0 (AE (adL ad) sz) := by
  refine E_start (by decide) wE_L (Nat.le_of_ble_eq_true rfl) ?_
  intro p e s m args below meth c C hr hlk hnm hsz hK H locs hE ls hl
  have C : CallFix p m c b_Journal_writeContainerFinished 5 s args Wl R_Journal := C
  have hl : lv_has ls 5 [(0, .ref (ad 18)), (1, .int (zI node)), (2, .int (zI time)), (3, .ref (ad (26 + v.toNat))), (4, .int (zI inst))] := hl
  refine lv_aload_n C.1 C.2.1 d_Journal_writeContainerFinished_0 rfl (lv_at hl 3 rfl) ?_
  refine E_calli hsz hE (va_runV (As := []) (rest := []) C (c_Troubles_isEmpty l D cI cZ cQ ad H.size T M Cc J Rr Ls v (show 0 ≤ v ∧ v < 5 by omega) hLz) (E_cwV C.2.2.2.2 lw_good cw_Journal_39 rfl rfl hd_Troubles_isEmpty ⟨Nat.le_of_ble_eq_true rfl, Nat.le_of_ble_eq_true rfl⟩) (E_preV hK hE (q := (R_Troubles, F_Troubles, 3)) (ci := 5) (q0 := (26 + v.toNat)) rfl (wE_T (by omega))) rfl rfl hl.1 rfl (lv_room (Nat.le_of_ble_eq_true rfl)) d_Journal_writeContainerFinished_1 ⟨Nat.zero_le _, Nat.zero_le _⟩) (fun r u H locs hw hE => ?_)
  subst hw
  have hb_1 := f_Troubles_isEmpty_rg Ls v
  refine zx_if_ne (tgt := 17) C.1 C.2.1 d_Journal_writeContainerFinished_4 (by decide) (by omega) (fun c_2 => ?_) (fun c_2 => ?_)
  · refine lv_aload_n C.1 C.2.1 d_Journal_writeContainerFinished_17 rfl (lv_at hl 0 rfl) ?_
    refine zx_iconst C.1 C.2.1 d_Journal_writeContainerFinished_18 ?_
    refine lv_iload_n C.1 C.2.1 d_Journal_writeContainerFinished_19 rfl (lv_at hl 1 rfl) ?_
    refine zx_iconst C.1 C.2.1 d_Journal_writeContainerFinished_20 ?_
    refine lv_iload_n C.1 C.2.1 d_Journal_writeContainerFinished_21 rfl (lv_at hl 2 rfl) ?_
    refine E_callv hsz hE (va_runV (As := [.int (zI 2), .int (zI node), .int (zI 0), .int (zI time)]) (rest := []) C (c_Journal_writeEvent l D cI cZ cQ ad H.size T M Cc J Rr Ls 2 node 0 time (show 0 ≤ (g_ev J) ∧ (g_ev J) < 1000000000 by omega)) (E_cwV C.2.2.2.2 lw_good cw_Journal_35 rfl rfl hd_Journal_writeEvent ⟨Nat.le_of_ble_eq_true rfl, Nat.le_of_ble_eq_true rfl⟩) (E_preV hK hE (q := (R_Journal, F_Journal, 7)) (ci := 1) (q0 := 18) rfl rfl) rfl rfl hl.1 rfl (lv_room (Nat.le_of_ble_eq_true rfl)) d_Journal_writeContainerFinished_22 ⟨Nat.zero_le _, Nat.zero_le _⟩) (fun u H locs hw hE => ?_)
    have hb_3 : g_ev (f_Journal_writeEvent J 2 node 0 time) = (g_ev J) + 1 := writeEvent_ev J 2 node 0 time
    refine lv_aload_n C.1 C.2.1 d_Journal_writeContainerFinished_25 rfl (lv_at hl 0 rfl) ?_
    refine lv_aload_n C.1 C.2.1 d_Journal_writeContainerFinished_26 rfl (lv_at hl 3 rfl) ?_
    refine lv_iload C.1 C.2.1 d_Journal_writeContainerFinished_27 (lv_at hl 4 rfl) ?_
    refine E_callv hsz hE (va_runV (As := [.ref (ad (26 + v.toNat)), .int (zI inst)]) (rest := []) C (c_Journal_writeOutcome l D cI cZ cQ ad H.size T M Cc (f_Journal_writeEvent J 2 node 0 time) Rr Ls v inst (show 0 ≤ v ∧ v < 5 by omega) hLz hLg (show 0 ≤ (g_ev (f_Journal_writeEvent J 2 node 0 time)) ∧ (g_ev (f_Journal_writeEvent J 2 node 0 time)) < 1000000000 by omega)) (E_cwV C.2.2.2.2 lw_good cw_Journal_45 rfl rfl hd_Journal_writeOutcome ⟨Nat.le_of_ble_eq_true rfl, Nat.le_of_ble_eq_true rfl⟩) (E_preV hK hE (q := (R_Journal, F_Journal, 7)) (ci := 1) (q0 := 18) rfl rfl) rfl rfl hl.1 rfl (lv_room (Nat.le_of_ble_eq_true rfl)) d_Journal_writeContainerFinished_29 ⟨Nat.zero_le _, Nat.zero_le _⟩) (fun u H locs hw hE => ?_)
    rw [show f_Journal_writeContainerFinished J Ls node time v inst = (f_Journal_writeOutcome (f_Journal_writeEvent J 2 node 0 time) Ls v inst) from by simp only [f_Journal_writeContainerFinished, if_neg c_2]]
    exact E_vret C hr hlk () hE trivial d_Journal_writeContainerFinished_32
  · refine lv_aload_n C.1 C.2.1 d_Journal_writeContainerFinished_7 rfl (lv_at hl 0 rfl) ?_
    refine lv_dup C.1 C.2.1 d_Journal_writeContainerFinished_8 rfl ?_
    refine gf_Journal_28 (x := (g_tc J)) C hK hE rfl d_Journal_writeContainerFinished_9 ?_
    refine zx_iconst C.1 C.2.1 d_Journal_writeContainerFinished_12 ?_
    refine zx_iadd C.1 C.2.1 d_Journal_writeContainerFinished_13 ?_
    refine pf_Journal_28 C hK hE d_Journal_writeContainerFinished_14 (fun H locs hE => ?_)
    have hE : EW D vwCl (AE (adL ad) sz) (wE cI cZ cQ ad T M Cc ((g_fld J), (g_jco J), (g_rbs J), (g_ev J), (g_sk J), ((g_tc J) + 1), (g_fa J)) Rr Ls) s.heap H locs := hE
    refine lv_aload_n C.1 C.2.1 d_Journal_writeContainerFinished_17 rfl (lv_at hl 0 rfl) ?_
    refine zx_iconst C.1 C.2.1 d_Journal_writeContainerFinished_18 ?_
    refine lv_iload_n C.1 C.2.1 d_Journal_writeContainerFinished_19 rfl (lv_at hl 1 rfl) ?_
    refine zx_iconst C.1 C.2.1 d_Journal_writeContainerFinished_20 ?_
    refine lv_iload_n C.1 C.2.1 d_Journal_writeContainerFinished_21 rfl (lv_at hl 2 rfl) ?_
    refine E_callv hsz hE (va_runV (As := [.int (zI 2), .int (zI node), .int (zI 0), .int (zI time)]) (rest := []) C (c_Journal_writeEvent l D cI cZ cQ ad H.size T M Cc ((g_fld J), (g_jco J), (g_rbs J), (g_ev J), (g_sk J), ((g_tc J) + 1), (g_fa J)) Rr Ls 2 node 0 time (show 0 ≤ (g_ev J) ∧ (g_ev J) < 1000000000 by omega)) (E_cwV C.2.2.2.2 lw_good cw_Journal_35 rfl rfl hd_Journal_writeEvent ⟨Nat.le_of_ble_eq_true rfl, Nat.le_of_ble_eq_true rfl⟩) (E_preV hK hE (q := (R_Journal, F_Journal, 7)) (ci := 1) (q0 := 18) rfl rfl) rfl rfl hl.1 rfl (lv_room (Nat.le_of_ble_eq_true rfl)) d_Journal_writeContainerFinished_22 ⟨Nat.zero_le _, Nat.zero_le _⟩) (fun u H locs hw hE => ?_)
    have hb_4 : g_ev (f_Journal_writeEvent ((g_fld J), (g_jco J), (g_rbs J), (g_ev J), (g_sk J), ((g_tc J) + 1), (g_fa J)) 2 node 0 time) = (g_ev J) + 1 := writeEvent_ev ((g_fld J), (g_jco J), (g_rbs J), (g_ev J), (g_sk J), ((g_tc J) + 1), (g_fa J)) 2 node 0 time
    refine lv_aload_n C.1 C.2.1 d_Journal_writeContainerFinished_25 rfl (lv_at hl 0 rfl) ?_
    refine lv_aload_n C.1 C.2.1 d_Journal_writeContainerFinished_26 rfl (lv_at hl 3 rfl) ?_
    refine lv_iload C.1 C.2.1 d_Journal_writeContainerFinished_27 (lv_at hl 4 rfl) ?_
    refine E_callv hsz hE (va_runV (As := [.ref (ad (26 + v.toNat)), .int (zI inst)]) (rest := []) C (c_Journal_writeOutcome l D cI cZ cQ ad H.size T M Cc (f_Journal_writeEvent ((g_fld J), (g_jco J), (g_rbs J), (g_ev J), (g_sk J), ((g_tc J) + 1), (g_fa J)) 2 node 0 time) Rr Ls v inst (show 0 ≤ v ∧ v < 5 by omega) hLz hLg (show 0 ≤ (g_ev (f_Journal_writeEvent ((g_fld J), (g_jco J), (g_rbs J), (g_ev J), (g_sk J), ((g_tc J) + 1), (g_fa J)) 2 node 0 time)) ∧ (g_ev (f_Journal_writeEvent ((g_fld J), (g_jco J), (g_rbs J), (g_ev J), (g_sk J), ((g_tc J) + 1), (g_fa J)) 2 node 0 time)) < 1000000000 by omega)) (E_cwV C.2.2.2.2 lw_good cw_Journal_45 rfl rfl hd_Journal_writeOutcome ⟨Nat.le_of_ble_eq_true rfl, Nat.le_of_ble_eq_true rfl⟩) (E_preV hK hE (q := (R_Journal, F_Journal, 7)) (ci := 1) (q0 := 18) rfl rfl) rfl rfl hl.1 rfl (lv_room (Nat.le_of_ble_eq_true rfl)) d_Journal_writeContainerFinished_29 ⟨Nat.zero_le _, Nat.zero_le _⟩) (fun u H locs hw hE => ?_)
    rw [show f_Journal_writeContainerFinished J Ls node time v inst = (f_Journal_writeOutcome (f_Journal_writeEvent ((g_fld J), (g_jco J), (g_rbs J), (g_ev J), (g_sk J), ((g_tc J) + 1), (g_fa J)) 2 node 0 time) Ls v inst) from by simp only [f_Journal_writeContainerFinished, if_pos c_2]]
    exact E_vret C hr hlk () hE trivial d_Journal_writeContainerFinished_32

def f_Journal_writeRoundFinished (J : JSt) (Ls : LSt) (node : Int) (round : Int) (time : Int) (v : Int) (inst : Int) : JSt := (f_Journal_writeOutcome (f_Journal_writeEvent ((g_fld J), (g_jco J), (iup (g_rbs J) (f_Troubles_status Ls v) (((g_rbs J) (f_Troubles_status Ls v)) + 1)), (g_ev J), (g_sk J), (g_tc J), (g_fa J)) 2 node round time) Ls v inst)
set_option maxHeartbeats 4000000 in
set_option maxRecDepth 100000 in
theorem c_Journal_writeRoundFinished (l : Launch) (D : va_G) (cI cZ cQ : ClassId) (ad : Nat → Nat) (sz : Nat) (T : TSt) (M : MSt) (Cc : CSt) (J : JSt) (Rr : RSt) (Ls : LSt) (node : Int) (round : Int) (time : Int) (v : Int) (inst : Int) (hl_v : 0 ≤ v ∧ v < 5) (hLz : ∀ k, 0 ≤ g_lz Ls k ∧ g_lz Ls k < 1000000000) (hLg : ∀ k, g_lg Ls k = 0 ∨ g_lg Ls k = 1) (hev : 0 ≤ g_ev J ∧ g_ev J < 900000000) : Met l y_Journal_writeRoundFinished (Cond.code y_Journal_writeRoundFinished b_Journal_writeRoundFinished 6 none :: Wl) { frames := 2, cells := 0, slots := 0, locals := 47 } (PE D vwCl (tyE cI cZ cQ) (wE cI cZ cQ ad T M Cc J Rr Ls) sz [.ref (ad 18), .int (zI node), .int (zI round), .int (zI time), .ref (ad (26 + v.toNat)), .int (zI inst)]) (QEv D vwCl (adL ad) sz (fun (_ : Unit) => True) (fun (_ : Unit) => (wE cI cZ cQ ad T M Cc (f_Journal_writeRoundFinished J Ls node round time v inst) Rr Ls))) 0 0 (AE (adL ad) sz) := by
  refine E_start (by decide) wE_L (Nat.le_of_ble_eq_true rfl) ?_
  intro p e s m args below meth c C hr hlk hnm hsz hK H locs hE ls hl
  have C : CallFix p m c b_Journal_writeRoundFinished 6 s args Wl R_Journal := C
  have hl : lv_has ls 6 [(0, .ref (ad 18)), (1, .int (zI node)), (2, .int (zI round)), (3, .int (zI time)), (4, .ref (ad (26 + v.toNat))), (5, .int (zI inst))] := hl
  refine lv_aload_n C.1 C.2.1 d_Journal_writeRoundFinished_0 rfl (lv_at hl 0 rfl) ?_
  refine gf_Journal_18 C hK hE d_Journal_writeRoundFinished_1 ?_
  refine lv_aload C.1 C.2.1 d_Journal_writeRoundFinished_4 (lv_at hl 4 rfl) ?_
  refine E_calli hsz hE (va_runV (As := []) (rest := [.ref (ad 21)]) C (c_Troubles_status l D cI cZ cQ ad H.size T M Cc J Rr Ls v (show 0 ≤ v ∧ v < 5 by omega) hLz hLg) (E_cwV C.2.2.2.2 lw_good cw_Journal_49 rfl rfl hd_Troubles_status ⟨Nat.le_of_ble_eq_true rfl, Nat.le_of_ble_eq_true rfl⟩) (E_preV hK hE (q := (R_Troubles, F_Troubles, 3)) (ci := 5) (q0 := (26 + v.toNat)) rfl (wE_T (by omega))) rfl rfl hl.1 rfl (lv_room (Nat.le_of_ble_eq_true rfl)) d_Journal_writeRoundFinished_6 ⟨Nat.zero_le _, Nat.zero_le _⟩) (fun r u H locs hw hE => ?_)
  subst hw
  have hb_1 := status_rg Ls v
  refine lv_dup2_11 C.1 C.2.1 d_Journal_writeRoundFinished_9 rfl rfl ?_
  refine al_rbs (x := ((g_rbs J) (f_Troubles_status Ls v))) C hK hE (by omega) rfl d_Journal_writeRoundFinished_10 ?_
  refine zx_iconst C.1 C.2.1 d_Journal_writeRoundFinished_11 ?_
  refine zx_iadd C.1 C.2.1 d_Journal_writeRoundFinished_12 ?_
  refine as_rbs C hK hE (by omega) d_Journal_writeRoundFinished_13 (fun H locs hE => ?_)
  have hE : EW D vwCl (AE (adL ad) sz) (wE cI cZ cQ ad T M Cc ((g_fld J), (g_jco J), (iup (g_rbs J) (f_Troubles_status Ls v) (((g_rbs J) (f_Troubles_status Ls v)) + 1)), (g_ev J), (g_sk J), (g_tc J), (g_fa J)) Rr Ls) s.heap H locs := hE
  refine lv_aload_n C.1 C.2.1 d_Journal_writeRoundFinished_14 rfl (lv_at hl 0 rfl) ?_
  refine zx_iconst C.1 C.2.1 d_Journal_writeRoundFinished_15 ?_
  refine lv_iload_n C.1 C.2.1 d_Journal_writeRoundFinished_16 rfl (lv_at hl 1 rfl) ?_
  refine lv_iload_n C.1 C.2.1 d_Journal_writeRoundFinished_17 rfl (lv_at hl 2 rfl) ?_
  refine lv_iload_n C.1 C.2.1 d_Journal_writeRoundFinished_18 rfl (lv_at hl 3 rfl) ?_
  refine E_callv hsz hE (va_runV (As := [.int (zI 2), .int (zI node), .int (zI round), .int (zI time)]) (rest := []) C (c_Journal_writeEvent l D cI cZ cQ ad H.size T M Cc ((g_fld J), (g_jco J), (iup (g_rbs J) (f_Troubles_status Ls v) (((g_rbs J) (f_Troubles_status Ls v)) + 1)), (g_ev J), (g_sk J), (g_tc J), (g_fa J)) Rr Ls 2 node round time (show 0 ≤ (g_ev J) ∧ (g_ev J) < 1000000000 by omega)) (E_cwV C.2.2.2.2 lw_good cw_Journal_35 rfl rfl hd_Journal_writeEvent ⟨Nat.le_of_ble_eq_true rfl, Nat.le_of_ble_eq_true rfl⟩) (E_preV hK hE (q := (R_Journal, F_Journal, 7)) (ci := 1) (q0 := 18) rfl rfl) rfl rfl hl.1 rfl (lv_room (Nat.le_of_ble_eq_true rfl)) d_Journal_writeRoundFinished_19 ⟨Nat.zero_le _, Nat.zero_le _⟩) (fun u H locs hw hE => ?_)
  have hb_2 : g_ev (f_Journal_writeEvent ((g_fld J), (g_jco J), (iup (g_rbs J) (f_Troubles_status Ls v) (((g_rbs J) (f_Troubles_status Ls v)) + 1)), (g_ev J), (g_sk J), (g_tc J), (g_fa J)) 2 node round time) = (g_ev J) + 1 := writeEvent_ev ((g_fld J), (g_jco J), (iup (g_rbs J) (f_Troubles_status Ls v) (((g_rbs J) (f_Troubles_status Ls v)) + 1)), (g_ev J), (g_sk J), (g_tc J), (g_fa J)) 2 node round time
  refine lv_aload_n C.1 C.2.1 d_Journal_writeRoundFinished_22 rfl (lv_at hl 0 rfl) ?_
  refine lv_aload C.1 C.2.1 d_Journal_writeRoundFinished_23 (lv_at hl 4 rfl) ?_
  refine lv_iload C.1 C.2.1 d_Journal_writeRoundFinished_25 (lv_at hl 5 rfl) ?_
  refine E_callv hsz hE (va_runV (As := [.ref (ad (26 + v.toNat)), .int (zI inst)]) (rest := []) C (c_Journal_writeOutcome l D cI cZ cQ ad H.size T M Cc (f_Journal_writeEvent ((g_fld J), (g_jco J), (iup (g_rbs J) (f_Troubles_status Ls v) (((g_rbs J) (f_Troubles_status Ls v)) + 1)), (g_ev J), (g_sk J), (g_tc J), (g_fa J)) 2 node round time) Rr Ls v inst (show 0 ≤ v ∧ v < 5 by omega) hLz hLg (show 0 ≤ (g_ev (f_Journal_writeEvent ((g_fld J), (g_jco J), (iup (g_rbs J) (f_Troubles_status Ls v) (((g_rbs J) (f_Troubles_status Ls v)) + 1)), (g_ev J), (g_sk J), (g_tc J), (g_fa J)) 2 node round time)) ∧ (g_ev (f_Journal_writeEvent ((g_fld J), (g_jco J), (iup (g_rbs J) (f_Troubles_status Ls v) (((g_rbs J) (f_Troubles_status Ls v)) + 1)), (g_ev J), (g_sk J), (g_tc J), (g_fa J)) 2 node round time)) < 1000000000 by omega)) (E_cwV C.2.2.2.2 lw_good cw_Journal_45 rfl rfl hd_Journal_writeOutcome ⟨Nat.le_of_ble_eq_true rfl, Nat.le_of_ble_eq_true rfl⟩) (E_preV hK hE (q := (R_Journal, F_Journal, 7)) (ci := 1) (q0 := 18) rfl rfl) rfl rfl hl.1 rfl (lv_room (Nat.le_of_ble_eq_true rfl)) d_Journal_writeRoundFinished_27 ⟨Nat.zero_le _, Nat.zero_le _⟩) (fun u H locs hw hE => ?_)
  rw [show f_Journal_writeRoundFinished J Ls node round time v inst = (f_Journal_writeOutcome (f_Journal_writeEvent ((g_fld J), (g_jco J), (iup (g_rbs J) (f_Troubles_status Ls v) (((g_rbs J) (f_Troubles_status Ls v)) + 1)), (g_ev J), (g_sk J), (g_tc J), (g_fa J)) 2 node round time) Ls v inst) from rfl]
  exact E_vret C hr hlk () hE trivial d_Journal_writeRoundFinished_30
end
section
def lf_Methods_giveBodies_2 (node : Int) (rounds : Int) : Nat → Int → MSt → Int × MSt
  | 0, round, M => (round, M)
  | n + 1, round, M => if rounds ≤ round then (round, M) else lf_Methods_giveBodies_2 node rounds n (round + 1) (f_Methods_give M node (4 + round) 0 0 0)
set_option maxHeartbeats 4000000 in
set_option maxRecDepth 100000 in
theorem lw_Methods_giveBodies_2 (l : Launch) (D : va_G) (cI cZ cQ : ClassId) (ad : Nat → Nat) (sz : Nat) (T : TSt) (Cc : CSt) (J : JSt) (Rr : RSt) (Ls : LSt) (node : Int) (rounds : Int) (h_node : 0 ≤ node ∧ node < 24) (h_rounds : 0 ≤ rounds ∧ rounds ≤ 3)  {p : Program} {e : Env} {R : Room} {s : State} {m : MethodId} {args : Array Value} {below : List Frame} {meth : Method} {c : Code} {Q : State → Prop} (C : CallFix p m c b_Methods_giveBodies 4 s args Wl R_Methods) (hsz : s.heap.size = sz) (hK : KN D vwCl (tyE cI cZ cQ) s) (hRf : 2 ≤ R.frames) (hRl : 47 ≤ R.locals) : ∀ (n : Nat) (round : Int) (M : MSt) , (0 ≤ round ∧ round ≤ 3) → ((rounds - round).toNat < n) → ∀ (H : Heap) (locs : List Loc) (ls : Array Slot), EW D vwCl (AE (adL ad) sz) (wE cI cZ cQ ad T M Cc J Rr Ls) s.heap H locs → lv_has ls 4 [(0, .ref (ad 10)), (1, .int (zI node)), (2, .int (zI rounds)), (3, .int (zI round))] → (∀ (H : Heap) (locs : List Loc) (ls : Array Slot), EW D vwCl (AE (adL ad) sz) (wE cI cZ cQ ad T ((lf_Methods_giveBodies_2 node rounds n round M).2) Cc J Rr Ls) s.heap H locs → lv_has ls 4 [(0, .ref (ad 10)), (1, .int (zI node)), (2, .int (zI rounds)), (3, .int (zI ((lf_Methods_giveBodies_2 node rounds n round M).1)))] → W p l e R s m args below meth c H locs 0 0 Q (F0 m 24 ls [])) → W p l e R s m args below meth c H locs 0 0 Q (F0 m 2 ls []) := by
  intro n
  induction n with
  | zero =>
    intro round M hi0 hn
    exact absurd hn (Nat.not_lt_zero _)
  | succ n ih =>
    intro round M hi0 hn H locs ls hE hl kk0
    refine lv_iload_n C.1 C.2.1 d_Methods_giveBodies_2 rfl (lv_at hl 3 rfl) ?_
    refine lv_iload_n C.1 C.2.1 d_Methods_giveBodies_3 rfl (lv_at hl 2 rfl) ?_
    refine zx_icmp_ge (tgt := 24) C.1 C.2.1 d_Methods_giveBodies_4 (by decide) (by omega) (fun c_1 => ?_) (fun c_1 => ?_)
    · rw [show lf_Methods_giveBodies_2 node rounds (n + 1) round M = (round, M) from by simp only [lf_Methods_giveBodies_2, if_pos c_1]] at kk0
      exact kk0 H locs ls hE (lv_sub hl [0, 1, 2, 3] rfl)
    · refine lv_aload_n C.1 C.2.1 d_Methods_giveBodies_7 rfl (lv_at hl 0 rfl) ?_
      refine lv_iload_n C.1 C.2.1 d_Methods_giveBodies_8 rfl (lv_at hl 1 rfl) ?_
      refine zx_iconst C.1 C.2.1 d_Methods_giveBodies_9 ?_
      refine lv_iload_n C.1 C.2.1 d_Methods_giveBodies_10 rfl (lv_at hl 3 rfl) ?_
      refine zx_iadd C.1 C.2.1 d_Methods_giveBodies_11 ?_
      refine zx_iconst C.1 C.2.1 d_Methods_giveBodies_12 ?_
      refine zx_iconst C.1 C.2.1 d_Methods_giveBodies_13 ?_
      refine zx_iconst C.1 C.2.1 d_Methods_giveBodies_14 ?_
      refine E_callv hsz hE (va_runV (As := [.int (zI node), .int (zI (4 + round)), .int (zI 0), .int (zI 0), .int (zI 0)]) (rest := []) C (c_Methods_give l D cI cZ cQ ad H.size T M Cc J Rr Ls node (4 + round) 0 0 0 (show 0 ≤ node ∧ node < 24 by omega) (show 0 ≤ (4 + round) ∧ (4 + round) < 7 by omega)) (E_cwV C.2.2.2.2 lw_good cw_Methods_25 rfl rfl hd_Methods_give ⟨Nat.le_trans (Nat.le_of_ble_eq_true rfl) hRf, Nat.le_trans (Nat.le_of_ble_eq_true rfl) hRl⟩) (E_preV hK hE (q := (R_Methods, F_Methods, 4)) (ci := 2) (q0 := 10) rfl rfl) rfl rfl hl.1 rfl (lv_room (Nat.le_of_ble_eq_true rfl)) d_Methods_giveBodies_15 ⟨Nat.zero_le _, Nat.zero_le _⟩) (fun u H locs hw hE => ?_)
      refine zx_iinc (lv' := [(3, .int (zI (round + 1))), (0, .ref (ad 10)), (1, .int (zI node)), (2, .int (zI rounds))]) C.1 C.2.1 d_Methods_giveBodies_18 hl (k := 3) rfl (by decide) rfl (fun ls hl => ?_)
      refine lv_goto (tgt := 2) C.1 C.2.1 d_Methods_giveBodies_21 (by decide) ?_
      have e_2 : lf_Methods_giveBodies_2 node rounds (n + 1) round M = lf_Methods_giveBodies_2 node rounds n (round + 1) (f_Methods_give M node (4 + round) 0 0 0) := by simp only [lf_Methods_giveBodies_2, if_neg c_1]
      rw [e_2] at kk0
      exact ih (round + 1) (f_Methods_give M node (4 + round) 0 0 0)  (by omega) (by omega) H locs ls hE (lv_sub hl [1, 2, 3, 0] rfl) kk0
def f_Methods_giveBodies (M : MSt) (node : Int) (rounds : Int) : MSt := ((lf_Methods_giveBodies_2 node rounds ((rounds - 0).toNat + 1) 0 M).2)
set_option maxHeartbeats 4000000 in
set_option maxRecDepth 100000 in
theorem c_Methods_giveBodies (l : Launch) (D : va_G) (cI cZ cQ : ClassId) (ad : Nat → Nat) (sz : Nat) (T : TSt) (M : MSt) (Cc : CSt) (J : JSt) (Rr : RSt) (Ls : LSt) (node : Int) (rounds : Int) (h_node : 0 ≤ node ∧ node < 24) (h_rounds : 0 ≤ rounds ∧ rounds ≤ 3) : Met l y_Methods_giveBodies (Cond.code y_Methods_giveBodies b_Methods_giveBodies 4 none :: Wl) { frames := 2, cells := 0, slots := 0, locals := 47 } (PE D vwCl (tyE cI cZ cQ) (wE cI cZ cQ ad T M Cc J Rr Ls) sz [.ref (ad 10), .int (zI node), .int (zI rounds)]) (QEv D vwCl (adL ad) sz (fun (_ : Unit) => True) (fun (_ : Unit) => (wE cI cZ cQ ad T (f_Methods_giveBodies M node rounds) Cc J Rr Ls))) 0 0 (AE (adL ad) sz) := by
  refine E_start (by decide) wE_L (Nat.le_of_ble_eq_true rfl) ?_
  intro p e s m args below meth c C hr hlk hnm hsz hK H locs hE ls hl
  have C : CallFix p m c b_Methods_giveBodies 4 s args Wl R_Methods := C
  have hl : lv_has ls 4 [(0, .ref (ad 10)), (1, .int (zI node)), (2, .int (zI rounds))] := hl
  refine zx_iconst C.1 C.2.1 d_Methods_giveBodies_0 ?_
  refine lv_istore_n (lv' := [(3, .int (zI 0)), (0, .ref (ad 10)), (1, .int (zI node)), (2, .int (zI rounds))]) C.1 C.2.1 d_Methods_giveBodies_1 rfl hl (by decide) rfl (fun ls hl => ?_)
  refine lw_Methods_giveBodies_2 l D cI cZ cQ ad sz T Cc J Rr Ls node rounds h_node h_rounds  C hsz hK (Nat.le_of_ble_eq_true rfl) (Nat.le_of_ble_eq_true rfl) ((rounds - 0).toNat + 1) 0 M  (by omega) (Nat.lt_succ_self _) H locs ls hE (lv_sub hl [1, 2, 3, 0] rfl) (fun H locs ls hE hl => ?_)
  rw [show f_Methods_giveBodies M node rounds = ((lf_Methods_giveBodies_2 node rounds ((rounds - 0).toNat + 1) 0 M).2) from rfl]
  exact E_vret C hr hlk () hE trivial d_Methods_giveBodies_24

def lf_Tree_childAfter_23 (T : TSt) (container : Int) (least : Int) : Nat → Int → Int → Int × Int
  | 0, next, node => (next, node)
  | n + 1, next, node => if (g_tsz T) ≤ node then (next, node) else if ((g_par T) node) = container then if ((((g_ord T) node) * 24) + node) ≤ least then lf_Tree_childAfter_23 T container least n next (node + 1) else if next = (-1) then lf_Tree_childAfter_23 T container least n node (node + 1) else if ((((g_ord T) next) * 24) + next) ≤ ((((g_ord T) node) * 24) + node) then lf_Tree_childAfter_23 T container least n next (node + 1) else lf_Tree_childAfter_23 T container least n node (node + 1) else lf_Tree_childAfter_23 T container least n next (node + 1)
set_option maxHeartbeats 4000000 in
set_option maxRecDepth 100000 in
theorem lw_Tree_childAfter_23 (l : Launch) (D : va_G) (cI cZ cQ : ClassId) (ad : Nat → Nat) (sz : Nat) (T : TSt) (M : MSt) (Cc : CSt) (J : JSt) (Rr : RSt) (Ls : LSt) (container : Int) (child : Int) (least : Int) (hT : TI T) (h_container : 0 ≤ container ∧ container < 24) (hle : -1 ≤ least ∧ least < 3000) {p : Program} {e : Env} {R : Room} {s : State} {m : MethodId} {args : Array Value} {below : List Frame} {meth : Method} {c : Code} {Q : State → Prop} (C : CallFix p m c b_Tree_childAfter 6 s args Wl R_Tree) (hsz : s.heap.size = sz) (hK : KN D vwCl (tyE cI cZ cQ) s) (hRf : 1 ≤ R.frames) (hRl : 21 ≤ R.locals) : ∀ (n : Nat) (next : Int) (node : Int) , (-1 ≤ next ∧ next < 24) → (0 ≤ node ∧ node ≤ 24) → ((g_tsz T - node).toNat < n) → ∀ (H : Heap) (locs : List Loc) (ls : Array Slot), EW D vwCl (AE (adL ad) sz) (wE cI cZ cQ ad T M Cc J Rr Ls) s.heap H locs → lv_has ls 6 [(0, .ref (ad 1)), (1, .int (zI container)), (2, .int (zI child)), (3, .int (zI least)), (4, .int (zI next)), (5, .int (zI node))] → (∀ (H : Heap) (locs : List Loc) (ls : Array Slot), EW D vwCl (AE (adL ad) sz) (wE cI cZ cQ ad T M Cc J Rr Ls) s.heap H locs → lv_has ls 6 [(0, .ref (ad 1)), (1, .int (zI container)), (2, .int (zI child)), (3, .int (zI least)), (4, .int (zI ((lf_Tree_childAfter_23 T container least n next node).1))), (5, .int (zI ((lf_Tree_childAfter_23 T container least n next node).2)))] → W p l e R s m args below meth c H locs 0 0 Q (F0 m 84 ls [])) → W p l e R s m args below meth c H locs 0 0 Q (F0 m 23 ls []) := by
  intro n
  induction n with
  | zero =>
    intro next node hi1 hi2 hn
    exact absurd hn (Nat.not_lt_zero _)
  | succ n ih =>
    intro next node hi1 hi2 hn H locs ls hE hl kk0
    have htsz := TI_sz hT
    refine lv_iload C.1 C.2.1 d_Tree_childAfter_23 (lv_at hl 5 rfl) ?_
    refine lv_aload_n C.1 C.2.1 d_Tree_childAfter_25 rfl (lv_at hl 0 rfl) ?_
    refine gf_Tree_37 (x := (g_tsz T)) C hK hE rfl d_Tree_childAfter_26 ?_
    refine zx_icmp_ge (tgt := 84) C.1 C.2.1 d_Tree_childAfter_29 (by decide) (by omega) (fun c_1 => ?_) (fun c_1 => ?_)
    · rw [show lf_Tree_childAfter_23 T container least (n + 1) next node = (next, node) from by simp only [lf_Tree_childAfter_23, if_pos c_1]] at kk0
      exact kk0 H locs ls hE (lv_sub hl [0, 1, 2, 3, 4, 5] rfl)
    · refine lv_aload_n C.1 C.2.1 d_Tree_childAfter_32 rfl (lv_at hl 0 rfl) ?_
      refine gf_Tree_9 C hK hE d_Tree_childAfter_33 ?_
      refine lv_iload C.1 C.2.1 d_Tree_childAfter_36 (lv_at hl 5 rfl) ?_
      refine al_par (x := ((g_par T) node)) C hK hE (by omega) rfl d_Tree_childAfter_38 ?_
      have hb_2 : -1 ≤ (g_par T) node ∧ (g_par T) node < 24 := hT.1 node
      refine lv_iload_n C.1 C.2.1 d_Tree_childAfter_39 rfl (lv_at hl 1 rfl) ?_
      refine zx_icmp_ne (tgt := 78) C.1 C.2.1 d_Tree_childAfter_40 (by decide) (by omega) (fun c_3 => ?_) (fun c_3 => ?_)
      · refine zx_iinc (lv' := [(5, .int (zI (node + 1))), (0, .ref (ad 1)), (1, .int (zI container)), (2, .int (zI child)), (3, .int (zI least)), (4, .int (zI next))]) C.1 C.2.1 d_Tree_childAfter_78 hl (k := 5) rfl (by decide) rfl (fun ls hl => ?_)
        refine lv_goto (tgt := 23) C.1 C.2.1 d_Tree_childAfter_81 (by decide) ?_
        have e_4 : lf_Tree_childAfter_23 T container least (n + 1) next node = lf_Tree_childAfter_23 T container least n next (node + 1) := by simp only [lf_Tree_childAfter_23, if_neg c_1, if_neg c_3]
        rw [e_4] at kk0
        exact ih next (node + 1)  (by omega) (by omega) (by omega) H locs ls hE (lv_sub hl [1, 2, 3, 4, 5, 0] rfl) kk0
      · refine lv_aload_n C.1 C.2.1 d_Tree_childAfter_43 rfl (lv_at hl 0 rfl) ?_
        refine lv_iload C.1 C.2.1 d_Tree_childAfter_44 (lv_at hl 5 rfl) ?_
        refine E_calli hsz hE (va_runV (As := [.int (zI node)]) (rest := []) C (c_Tree_rankOf l D cI cZ cQ ad H.size T M Cc J Rr Ls node (show 0 ≤ node ∧ node < 24 by omega)) (E_cwV C.2.2.2.2 lw_good cw_Tree_53 rfl rfl hd_Tree_rankOf ⟨Nat.le_trans (Nat.le_of_ble_eq_true rfl) hRf, Nat.le_trans (Nat.le_of_ble_eq_true rfl) hRl⟩) (E_preV hK hE (q := (R_Tree, F_Tree, 9)) (ci := 4) (q0 := 1) rfl rfl) rfl rfl hl.1 rfl (lv_room (Nat.le_of_ble_eq_true rfl)) d_Tree_childAfter_46 ⟨Nat.zero_le _, Nat.zero_le _⟩) (fun r u H locs hw hE => ?_)
        subst hw
        have hb_5 : 0 ≤ (g_ord T) node ∧ (g_ord T) node ≤ 99 := hT.2.2.1 node
        refine lv_iload_n C.1 C.2.1 d_Tree_childAfter_49 rfl (lv_at hl 3 rfl) ?_
        refine zx_icmp_le (tgt := 78) C.1 C.2.1 d_Tree_childAfter_50 (by decide) (by omega) (fun c_6 => ?_) (fun c_6 => ?_)
        · refine zx_iinc (lv' := [(5, .int (zI (node + 1))), (0, .ref (ad 1)), (1, .int (zI container)), (2, .int (zI child)), (3, .int (zI least)), (4, .int (zI next))]) C.1 C.2.1 d_Tree_childAfter_78 hl (k := 5) rfl (by decide) rfl (fun ls hl => ?_)
          refine lv_goto (tgt := 23) C.1 C.2.1 d_Tree_childAfter_81 (by decide) ?_
          have e_7 : lf_Tree_childAfter_23 T container least (n + 1) next node = lf_Tree_childAfter_23 T container least n next (node + 1) := by simp only [lf_Tree_childAfter_23, if_neg c_1, if_pos c_3, if_pos c_6]
          rw [e_7] at kk0
          exact ih next (node + 1)  (by omega) (by omega) (by omega) H locs ls hE (lv_sub hl [1, 2, 3, 4, 5, 0] rfl) kk0
        · refine lv_iload C.1 C.2.1 d_Tree_childAfter_53 (lv_at hl 4 rfl) ?_
          refine zx_iconst C.1 C.2.1 d_Tree_childAfter_55 ?_
          refine zx_icmp_eq (tgt := 74) C.1 C.2.1 d_Tree_childAfter_56 (by decide) (by omega) (fun c_8 => ?_) (fun c_8 => ?_)
          · refine lv_iload C.1 C.2.1 d_Tree_childAfter_74 (lv_at hl 5 rfl) ?_
            refine lv_istore (lv' := [(4, .int (zI node)), (0, .ref (ad 1)), (1, .int (zI container)), (2, .int (zI child)), (3, .int (zI least)), (5, .int (zI node))]) C.1 C.2.1 d_Tree_childAfter_76 hl (by decide) rfl (fun ls hl => ?_)
            refine zx_iinc (lv' := [(5, .int (zI (node + 1))), (4, .int (zI node)), (0, .ref (ad 1)), (1, .int (zI container)), (2, .int (zI child)), (3, .int (zI least))]) C.1 C.2.1 d_Tree_childAfter_78 hl (k := 5) rfl (by decide) rfl (fun ls hl => ?_)
            refine lv_goto (tgt := 23) C.1 C.2.1 d_Tree_childAfter_81 (by decide) ?_
            have e_9 : lf_Tree_childAfter_23 T container least (n + 1) next node = lf_Tree_childAfter_23 T container least n node (node + 1) := by simp only [lf_Tree_childAfter_23, if_neg c_1, if_pos c_3, if_neg c_6, if_pos c_8]
            rw [e_9] at kk0
            exact ih node (node + 1)  (by omega) (by omega) (by omega) H locs ls hE (lv_sub hl [2, 3, 4, 5, 1, 0] rfl) kk0
          · refine lv_aload_n C.1 C.2.1 d_Tree_childAfter_59 rfl (lv_at hl 0 rfl) ?_
            refine lv_iload C.1 C.2.1 d_Tree_childAfter_60 (lv_at hl 5 rfl) ?_
            refine E_calli hsz hE (va_runV (As := [.int (zI node)]) (rest := []) C (c_Tree_rankOf l D cI cZ cQ ad H.size T M Cc J Rr Ls node (show 0 ≤ node ∧ node < 24 by omega)) (E_cwV C.2.2.2.2 lw_good cw_Tree_53 rfl rfl hd_Tree_rankOf ⟨Nat.le_trans (Nat.le_of_ble_eq_true rfl) hRf, Nat.le_trans (Nat.le_of_ble_eq_true rfl) hRl⟩) (E_preV hK hE (q := (R_Tree, F_Tree, 9)) (ci := 4) (q0 := 1) rfl rfl) rfl rfl hl.1 rfl (lv_room (Nat.le_of_ble_eq_true rfl)) d_Tree_childAfter_62 ⟨Nat.zero_le _, Nat.zero_le _⟩) (fun r u H locs hw hE => ?_)
            subst hw
            have hb_10 : 0 ≤ (g_ord T) node ∧ (g_ord T) node ≤ 99 := hT.2.2.1 node
            refine lv_aload_n C.1 C.2.1 d_Tree_childAfter_65 rfl (lv_at hl 0 rfl) ?_
            refine lv_iload C.1 C.2.1 d_Tree_childAfter_66 (lv_at hl 4 rfl) ?_
            refine E_calli hsz hE (va_runV (As := [.int (zI next)]) (rest := [.int (zI ((((g_ord T) node) * 24) + node))]) C (c_Tree_rankOf l D cI cZ cQ ad H.size T M Cc J Rr Ls next (show 0 ≤ next ∧ next < 24 by omega)) (E_cwV C.2.2.2.2 lw_good cw_Tree_53 rfl rfl hd_Tree_rankOf ⟨Nat.le_trans (Nat.le_of_ble_eq_true rfl) hRf, Nat.le_trans (Nat.le_of_ble_eq_true rfl) hRl⟩) (E_preV hK hE (q := (R_Tree, F_Tree, 9)) (ci := 4) (q0 := 1) rfl rfl) rfl rfl hl.1 rfl (lv_room (Nat.le_of_ble_eq_true rfl)) d_Tree_childAfter_68 ⟨Nat.zero_le _, Nat.zero_le _⟩) (fun r u H locs hw hE => ?_)
            subst hw
            have hb_11 : 0 ≤ (g_ord T) next ∧ (g_ord T) next ≤ 99 := hT.2.2.1 next
            refine zx_icmp_ge (tgt := 78) C.1 C.2.1 d_Tree_childAfter_71 (by decide) (by omega) (fun c_12 => ?_) (fun c_12 => ?_)
            · refine zx_iinc (lv' := [(5, .int (zI (node + 1))), (0, .ref (ad 1)), (1, .int (zI container)), (2, .int (zI child)), (3, .int (zI least)), (4, .int (zI next))]) C.1 C.2.1 d_Tree_childAfter_78 hl (k := 5) rfl (by decide) rfl (fun ls hl => ?_)
              refine lv_goto (tgt := 23) C.1 C.2.1 d_Tree_childAfter_81 (by decide) ?_
              have e_13 : lf_Tree_childAfter_23 T container least (n + 1) next node = lf_Tree_childAfter_23 T container least n next (node + 1) := by simp only [lf_Tree_childAfter_23, if_neg c_1, if_pos c_3, if_neg c_6, if_neg c_8, if_pos c_12]
              rw [e_13] at kk0
              exact ih next (node + 1)  (by omega) (by omega) (by omega) H locs ls hE (lv_sub hl [1, 2, 3, 4, 5, 0] rfl) kk0
            · refine lv_iload C.1 C.2.1 d_Tree_childAfter_74 (lv_at hl 5 rfl) ?_
              refine lv_istore (lv' := [(4, .int (zI node)), (0, .ref (ad 1)), (1, .int (zI container)), (2, .int (zI child)), (3, .int (zI least)), (5, .int (zI node))]) C.1 C.2.1 d_Tree_childAfter_76 hl (by decide) rfl (fun ls hl => ?_)
              refine zx_iinc (lv' := [(5, .int (zI (node + 1))), (4, .int (zI node)), (0, .ref (ad 1)), (1, .int (zI container)), (2, .int (zI child)), (3, .int (zI least))]) C.1 C.2.1 d_Tree_childAfter_78 hl (k := 5) rfl (by decide) rfl (fun ls hl => ?_)
              refine lv_goto (tgt := 23) C.1 C.2.1 d_Tree_childAfter_81 (by decide) ?_
              have e_14 : lf_Tree_childAfter_23 T container least (n + 1) next node = lf_Tree_childAfter_23 T container least n node (node + 1) := by simp only [lf_Tree_childAfter_23, if_neg c_1, if_pos c_3, if_neg c_6, if_neg c_8, if_neg c_12]
              rw [e_14] at kk0
              exact ih node (node + 1)  (by omega) (by omega) (by omega) H locs ls hE (lv_sub hl [2, 3, 4, 5, 1, 0] rfl) kk0
def f_Tree_childAfter (T : TSt) (container : Int) (child : Int) : Int := if child = (-1) then ((lf_Tree_childAfter_23 T container (-1) ((g_tsz T - (container + 1)).toNat + 1) (-1) (container + 1)).1) else ((lf_Tree_childAfter_23 T container ((((g_ord T) child) * 24) + child) ((g_tsz T - (container + 1)).toNat + 1) (-1) (container + 1)).1)
set_option maxHeartbeats 4000000 in
set_option maxRecDepth 100000 in
theorem c_Tree_childAfter (l : Launch) (D : va_G) (cI cZ cQ : ClassId) (ad : Nat → Nat) (sz : Nat) (T : TSt) (M : MSt) (Cc : CSt) (J : JSt) (Rr : RSt) (Ls : LSt) (container : Int) (child : Int) (hT : TI T) (h_container : 0 ≤ container ∧ container < 24) (h_child : -1 ≤ child ∧ child < 24) : Met l y_Tree_childAfter (Cond.code y_Tree_childAfter b_Tree_childAfter 6 (some .int) :: Wl) { frames := 1, cells := 0, slots := 0, locals := 21 } (PE D vwCl (tyE cI cZ cQ) (wE cI cZ cQ ad T M Cc J Rr Ls) sz [.ref (ad 1), .int (zI container), .int (zI child)]) (QEi D vwCl (adL ad) sz (fun (r : Int32) (_ : Unit) => r = zI (f_Tree_childAfter T container child)) (fun (_ : Unit) => (wE cI cZ cQ ad T M Cc J Rr Ls))) 0 0 (AE (adL ad) sz) := by
  refine E_start (by decide) wE_L (Nat.le_of_ble_eq_true rfl) ?_
  intro p e s m args below meth c C hr hlk hnm hsz hK H locs hE ls hl
  have C : CallFix p m c b_Tree_childAfter 6 s args Wl R_Tree := C
  have hl : lv_has ls 6 [(0, .ref (ad 1)), (1, .int (zI container)), (2, .int (zI child))] := hl
  have htsz := TI_sz hT
  refine lv_iload_n C.1 C.2.1 d_Tree_childAfter_0 rfl (lv_at hl 2 rfl) ?_
  refine zx_iconst C.1 C.2.1 d_Tree_childAfter_1 ?_
  refine zx_icmp_ne (tgt := 9) C.1 C.2.1 d_Tree_childAfter_2 (by decide) (by omega) (fun c_1 => ?_) (fun c_1 => ?_)
  · refine lv_aload_n C.1 C.2.1 d_Tree_childAfter_9 rfl (lv_at hl 0 rfl) ?_
    refine lv_iload_n C.1 C.2.1 d_Tree_childAfter_10 rfl (lv_at hl 2 rfl) ?_
    refine E_calli hsz hE (va_runV (As := [.int (zI child)]) (rest := []) C (c_Tree_rankOf l D cI cZ cQ ad H.size T M Cc J Rr Ls child (show 0 ≤ child ∧ child < 24 by omega)) (E_cwV C.2.2.2.2 lw_good cw_Tree_53 rfl rfl hd_Tree_rankOf ⟨Nat.le_of_ble_eq_true rfl, Nat.le_of_ble_eq_true rfl⟩) (E_preV hK hE (q := (R_Tree, F_Tree, 9)) (ci := 4) (q0 := 1) rfl rfl) rfl rfl hl.1 rfl (lv_room (Nat.le_of_ble_eq_true rfl)) d_Tree_childAfter_11 ⟨Nat.zero_le _, Nat.zero_le _⟩) (fun r u H locs hw hE => ?_)
    subst hw
    have hb_2 : 0 ≤ (g_ord T) child ∧ (g_ord T) child ≤ 99 := hT.2.2.1 child
    refine lv_istore_n (lv' := [(3, .int (zI ((((g_ord T) child) * 24) + child))), (0, .ref (ad 1)), (1, .int (zI container)), (2, .int (zI child))]) C.1 C.2.1 d_Tree_childAfter_14 rfl hl (by decide) rfl (fun ls hl => ?_)
    refine zx_iconst C.1 C.2.1 d_Tree_childAfter_15 ?_
    refine lv_istore (lv' := [(4, .int (zI (-1))), (3, .int (zI ((((g_ord T) child) * 24) + child))), (0, .ref (ad 1)), (1, .int (zI container)), (2, .int (zI child))]) C.1 C.2.1 d_Tree_childAfter_16 hl (by decide) rfl (fun ls hl => ?_)
    refine lv_iload_n C.1 C.2.1 d_Tree_childAfter_18 rfl (lv_at hl 3 rfl) ?_
    refine zx_iconst C.1 C.2.1 d_Tree_childAfter_19 ?_
    refine zx_iadd C.1 C.2.1 d_Tree_childAfter_20 ?_
    refine lv_istore (lv' := [(5, .int (zI (container + 1))), (4, .int (zI (-1))), (3, .int (zI ((((g_ord T) child) * 24) + child))), (0, .ref (ad 1)), (1, .int (zI container)), (2, .int (zI child))]) C.1 C.2.1 d_Tree_childAfter_21 hl (by decide) rfl (fun ls hl => ?_)
    refine lw_Tree_childAfter_23 l D cI cZ cQ ad sz T M Cc J Rr Ls container child ((((g_ord T) child) * 24) + child) hT h_container (by omega) C hsz hK (Nat.le_of_ble_eq_true rfl) (Nat.le_of_ble_eq_true rfl) ((g_tsz T - (container + 1)).toNat + 1) (-1) (container + 1)  (by omega) (by omega) (Nat.lt_succ_self _) H locs ls hE (lv_sub hl [3, 4, 5, 2, 1, 0] rfl) (fun H locs ls hE hl => ?_)
    refine lv_iload C.1 C.2.1 d_Tree_childAfter_84 (lv_at hl 4 rfl) ?_
    rw [show f_Tree_childAfter T container child = ((lf_Tree_childAfter_23 T container ((((g_ord T) child) * 24) + child) ((g_tsz T - (container + 1)).toNat + 1) (-1) (container + 1)).1) from by simp only [f_Tree_childAfter, if_neg c_1]]
    exact E_iret C hr hlk () hE rfl d_Tree_childAfter_86
  · refine zx_iconst C.1 C.2.1 d_Tree_childAfter_5 ?_
    refine lv_goto (tgt := 14) C.1 C.2.1 d_Tree_childAfter_6 (by decide) ?_
    refine lv_istore_n (lv' := [(3, .int (zI (-1))), (0, .ref (ad 1)), (1, .int (zI container)), (2, .int (zI child))]) C.1 C.2.1 d_Tree_childAfter_14 rfl hl (by decide) rfl (fun ls hl => ?_)
    refine zx_iconst C.1 C.2.1 d_Tree_childAfter_15 ?_
    refine lv_istore (lv' := [(4, .int (zI (-1))), (3, .int (zI (-1))), (0, .ref (ad 1)), (1, .int (zI container)), (2, .int (zI child))]) C.1 C.2.1 d_Tree_childAfter_16 hl (by decide) rfl (fun ls hl => ?_)
    refine lv_iload_n C.1 C.2.1 d_Tree_childAfter_18 rfl (lv_at hl 3 rfl) ?_
    refine zx_iconst C.1 C.2.1 d_Tree_childAfter_19 ?_
    refine zx_iadd C.1 C.2.1 d_Tree_childAfter_20 ?_
    refine lv_istore (lv' := [(5, .int (zI (container + 1))), (4, .int (zI (-1))), (3, .int (zI (-1))), (0, .ref (ad 1)), (1, .int (zI container)), (2, .int (zI child))]) C.1 C.2.1 d_Tree_childAfter_21 hl (by decide) rfl (fun ls hl => ?_)
    refine lw_Tree_childAfter_23 l D cI cZ cQ ad sz T M Cc J Rr Ls container child (-1) hT h_container (by omega) C hsz hK (Nat.le_of_ble_eq_true rfl) (Nat.le_of_ble_eq_true rfl) ((g_tsz T - (container + 1)).toNat + 1) (-1) (container + 1)  (by omega) (by omega) (Nat.lt_succ_self _) H locs ls hE (lv_sub hl [3, 4, 5, 2, 1, 0] rfl) (fun H locs ls hE hl => ?_)
    refine lv_iload C.1 C.2.1 d_Tree_childAfter_84 (lv_at hl 4 rfl) ?_
    rw [show f_Tree_childAfter T container child = ((lf_Tree_childAfter_23 T container (-1) ((g_tsz T - (container + 1)).toNat + 1) (-1) (container + 1)).1) from by simp only [f_Tree_childAfter, if_pos c_1]]
    exact E_iret C hr hlk () hE rfl d_Tree_childAfter_86

def lf_Tree_writePath_10 (T : TSt) : Nat → Int → Int → RSt → Int × Int × RSt
  | 0, node, depth, Rr => (node, depth, Rr)
  | n + 1, node, depth, Rr => if depth < 0 then (node, depth, Rr) else lf_Tree_writePath_10 T n ((g_par T) node) (depth + (-1)) ((iup (g_pth Rr) depth node), (g_ins Rr), (g_im Rr), (g_tm Rr), (g_ca Rr), (g_br Rr))
set_option maxHeartbeats 4000000 in
set_option maxRecDepth 100000 in
theorem lw_Tree_writePath_10 (l : Launch) (D : va_G) (cI cZ cQ : ClassId) (ad : Nat → Nat) (sz : Nat) (T : TSt) (M : MSt) (Cc : CSt) (J : JSt) (Ls : LSt) (container : Int) (hT : TI T)  {p : Program} {e : Env} {R : Room} {s : State} {m : MethodId} {args : Array Value} {below : List Frame} {meth : Method} {c : Code} {Q : State → Prop} (C : CallFix p m c b_Tree_writePath 5 s args Wl R_Tree) (hsz : s.heap.size = sz) (hK : KN D vwCl (tyE cI cZ cQ) s) (hRf : 0 ≤ R.frames) (hRl : 0 ≤ R.locals) : ∀ (n : Nat) (node : Int) (depth : Int) (Rr : RSt) , (-1 ≤ depth ∧ depth < 4) → (0 ≤ depth → 0 ≤ node ∧ node < g_tsz T ∧ g_dep T node = depth) → ((depth + 1).toNat < n) → ∀ (H : Heap) (locs : List Loc) (ls : Array Slot), EW D vwCl (AE (adL ad) sz) (wE cI cZ cQ ad T M Cc J Rr Ls) s.heap H locs → lv_has ls 5 [(0, .ref (ad 1)), (1, .int (zI container)), (2, .ref (ad 24)), (3, .int (zI node)), (4, .int (zI depth))] → (∀ (H : Heap) (locs : List Loc) (ls : Array Slot), EW D vwCl (AE (adL ad) sz) (wE cI cZ cQ ad T M Cc J ((lf_Tree_writePath_10 T n node depth Rr).2.2) Ls) s.heap H locs → lv_has ls 5 [(0, .ref (ad 1)), (1, .int (zI container)), (2, .ref (ad 24)), (3, .int (zI ((lf_Tree_writePath_10 T n node depth Rr).1))), (4, .int (zI ((lf_Tree_writePath_10 T n node depth Rr).2.1)))] → W p l e R s m args below meth c H locs 0 0 Q (F0 m 33 ls [])) → W p l e R s m args below meth c H locs 0 0 Q (F0 m 10 ls []) := by
  intro n
  induction n with
  | zero =>
    intro node depth Rr hi1 hi2 hn
    exact absurd hn (Nat.not_lt_zero _)
  | succ n ih =>
    intro node depth Rr hi1 hi2 hn H locs ls hE hl kk0
    have htsz := TI_sz hT
    have hq := TI_up hT node
    refine lv_iload C.1 C.2.1 d_Tree_writePath_10 (lv_at hl 4 rfl) ?_
    refine zx_if_lt (tgt := 33) C.1 C.2.1 d_Tree_writePath_12 (by decide) (by omega) (fun c_1 => ?_) (fun c_1 => ?_)
    · rw [show lf_Tree_writePath_10 T (n + 1) node depth Rr = (node, depth, Rr) from by simp only [lf_Tree_writePath_10, if_pos c_1]] at kk0
      exact kk0 H locs ls hE (lv_sub hl [0, 1, 2, 3, 4] rfl)
    · refine lv_aload_n C.1 C.2.1 d_Tree_writePath_15 rfl (lv_at hl 2 rfl) ?_
      refine lv_iload C.1 C.2.1 d_Tree_writePath_16 (lv_at hl 4 rfl) ?_
      refine lv_iload_n C.1 C.2.1 d_Tree_writePath_18 rfl (lv_at hl 3 rfl) ?_
      refine as_pth C hK hE (by omega) d_Tree_writePath_19 (fun H locs hE => ?_)
      have hE : EW D vwCl (AE (adL ad) sz) (wE cI cZ cQ ad T M Cc J ((iup (g_pth Rr) depth node), (g_ins Rr), (g_im Rr), (g_tm Rr), (g_ca Rr), (g_br Rr)) Ls) s.heap H locs := hE
      refine lv_aload_n C.1 C.2.1 d_Tree_writePath_20 rfl (lv_at hl 0 rfl) ?_
      refine gf_Tree_9 C hK hE d_Tree_writePath_21 ?_
      refine lv_iload_n C.1 C.2.1 d_Tree_writePath_24 rfl (lv_at hl 3 rfl) ?_
      refine al_par (x := ((g_par T) node)) C hK hE (by omega) rfl d_Tree_writePath_25 ?_
      have hb_2 : -1 ≤ (g_par T) node ∧ (g_par T) node < 24 := hT.1 node
      refine lv_istore_n (lv' := [(3, .int (zI ((g_par T) node))), (0, .ref (ad 1)), (1, .int (zI container)), (2, .ref (ad 24)), (4, .int (zI depth))]) C.1 C.2.1 d_Tree_writePath_26 rfl hl (by decide) rfl (fun ls hl => ?_)
      refine zx_iinc (lv' := [(4, .int (zI (depth + (-1)))), (3, .int (zI ((g_par T) node))), (0, .ref (ad 1)), (1, .int (zI container)), (2, .ref (ad 24))]) C.1 C.2.1 d_Tree_writePath_27 hl (k := 4) rfl (by decide) rfl (fun ls hl => ?_)
      refine lv_goto (tgt := 10) C.1 C.2.1 d_Tree_writePath_30 (by decide) ?_
      have e_3 : lf_Tree_writePath_10 T (n + 1) node depth Rr = lf_Tree_writePath_10 T n ((g_par T) node) (depth + (-1)) ((iup (g_pth Rr) depth node), (g_ins Rr), (g_im Rr), (g_tm Rr), (g_ca Rr), (g_br Rr)) := by simp only [lf_Tree_writePath_10, if_neg c_1]
      rw [e_3] at kk0
      exact ih ((g_par T) node) (depth + (-1)) ((iup (g_pth Rr) depth node), (g_ins Rr), (g_im Rr), (g_tm Rr), (g_ca Rr), (g_br Rr))  (by omega) (by omega) (by omega) H locs ls hE (lv_sub hl [2, 3, 4, 1, 0] rfl) kk0
def f_Tree_writePath (T : TSt) (Rr : RSt) (container : Int) : RSt := ((lf_Tree_writePath_10 T ((((g_dep T) container) + 1).toNat + 1) container ((g_dep T) container) Rr).2.2)
set_option maxHeartbeats 4000000 in
set_option maxRecDepth 100000 in
theorem c_Tree_writePath (l : Launch) (D : va_G) (cI cZ cQ : ClassId) (ad : Nat → Nat) (sz : Nat) (T : TSt) (M : MSt) (Cc : CSt) (J : JSt) (Rr : RSt) (Ls : LSt) (container : Int) (hT : TI T) (h_container : 0 ≤ container ∧ container < g_tsz T) (h_dc : g_dep T container ≤ 3) : Met l y_Tree_writePath (Cond.code y_Tree_writePath b_Tree_writePath 5 none :: Wl) { frames := 0, cells := 0, slots := 0, locals := 0 } (PE D vwCl (tyE cI cZ cQ) (wE cI cZ cQ ad T M Cc J Rr Ls) sz [.ref (ad 1), .int (zI container), .ref (ad 24)]) (QEv D vwCl (adL ad) sz (fun (_ : Unit) => True) (fun (_ : Unit) => (wE cI cZ cQ ad T M Cc J (f_Tree_writePath T Rr container) Ls))) 0 0 (AE (adL ad) sz) := by
  refine E_start (by decide) wE_L (Nat.le_of_ble_eq_true rfl) ?_
  intro p e s m args below meth c C hr hlk hnm hsz hK H locs hE ls hl
  have C : CallFix p m c b_Tree_writePath 5 s args Wl R_Tree := C
  have hl : lv_has ls 5 [(0, .ref (ad 1)), (1, .int (zI container)), (2, .ref (ad 24))] := hl
  have htsz := TI_sz hT
  have hdc := hT.2.1 container
  refine lv_iload_n C.1 C.2.1 d_Tree_writePath_0 rfl (lv_at hl 1 rfl) ?_
  refine lv_istore_n (lv' := [(3, .int (zI container)), (0, .ref (ad 1)), (1, .int (zI container)), (2, .ref (ad 24))]) C.1 C.2.1 d_Tree_writePath_1 rfl hl (by decide) rfl (fun ls hl => ?_)
  refine lv_aload_n C.1 C.2.1 d_Tree_writePath_2 rfl (lv_at hl 1 rfl) ?_
  refine gf_Tree_15 C hK hE d_Tree_writePath_3 ?_
  refine lv_iload_n C.1 C.2.1 d_Tree_writePath_6 rfl (lv_at hl 2 rfl) ?_
  refine al_dep (x := ((g_dep T) container)) C hK hE (by omega) rfl d_Tree_writePath_7 ?_
  have hb_1 : 0 ≤ (g_dep T) container ∧ (g_dep T) container ≤ 4 := hT.2.1 container
  refine lv_istore (lv' := [(4, .int (zI ((g_dep T) container))), (3, .int (zI container)), (0, .ref (ad 1)), (1, .int (zI container)), (2, .ref (ad 24))]) C.1 C.2.1 d_Tree_writePath_8 hl (by decide) rfl (fun ls hl => ?_)
  refine lw_Tree_writePath_10 l D cI cZ cQ ad sz T M Cc J Ls container hT  C hsz hK (Nat.le_of_ble_eq_true rfl) (Nat.le_of_ble_eq_true rfl) ((((g_dep T) container) + 1).toNat + 1) container ((g_dep T) container) Rr  (by omega) (by omega) (Nat.lt_succ_self _) H locs ls hE (lv_sub hl [2, 3, 4, 1, 0] rfl) (fun H locs ls hE hl => ?_)
  rw [show f_Tree_writePath T Rr container = ((lf_Tree_writePath_10 T ((((g_dep T) container) + 1).toNat + 1) container ((g_dep T) container) Rr).2.2) from rfl]
  exact E_vret C hr hlk () hE trivial d_Tree_writePath_33
end
section

def lf_Choice_gatherTags_16 (T : TSt) : Nat → Int → CSt → Int × CSt
  | 0, node, Cc => (node, Cc)
  | n + 1, node, Cc => if (g_tsz T) ≤ node then (node, Cc) else lf_Choice_gatherTags_16 T n (node + 1) ((iup (g_alt Cc) node (ior ((g_tag T) node) ((g_alt Cc) ((g_par T) node)))), (g_cho Cc), (g_nch Cc))
set_option maxHeartbeats 4000000 in
set_option maxRecDepth 100000 in
theorem lw_Choice_gatherTags_16 (l : Launch) (D : va_G) (cI cZ cQ : ClassId) (ad : Nat → Nat) (sz : Nat) (T : TSt) (M : MSt) (J : JSt) (Rr : RSt) (Ls : LSt)  (hT : TI T)  {p : Program} {e : Env} {R : Room} {s : State} {m : MethodId} {args : Array Value} {below : List Frame} {meth : Method} {c : Code} {Q : State → Prop} (C : CallFix p m c b_Choice_gatherTags 2 s args Wl R_Choice) (hsz : s.heap.size = sz) (hK : KN D vwCl (tyE cI cZ cQ) s) (hRf : 1 ≤ R.frames) (hRl : 21 ≤ R.locals) : ∀ (n : Nat) (node : Int) (Cc : CSt) , (1 ≤ node ∧ node ≤ 24) → ((g_tsz T - node).toNat < n) → ∀ (H : Heap) (locs : List Loc) (ls : Array Slot), EW D vwCl (AE (adL ad) sz) (wE cI cZ cQ ad T M Cc J Rr Ls) s.heap H locs → lv_has ls 2 [(0, .ref (ad 15)), (1, .int (zI node))] → (∀ (H : Heap) (locs : List Loc) (ls : Array Slot), EW D vwCl (AE (adL ad) sz) (wE cI cZ cQ ad T M ((lf_Choice_gatherTags_16 T n node Cc).2) J Rr Ls) s.heap H locs → lv_has ls 2 [(0, .ref (ad 15)), (1, .int (zI ((lf_Choice_gatherTags_16 T n node Cc).1)))] → W p l e R s m args below meth c H locs 0 0 Q (F0 m 61 ls [])) → W p l e R s m args below meth c H locs 0 0 Q (F0 m 16 ls []) := by
  intro n
  induction n with
  | zero =>
    intro node Cc hi1 hn
    exact absurd hn (Nat.not_lt_zero _)
  | succ n ih =>
    intro node Cc hi1 hn H locs ls hE hl kk0
    have htsz := TI_sz hT
    have hq := TI_par hT node
    refine lv_iload_n C.1 C.2.1 d_Choice_gatherTags_16 rfl (lv_at hl 1 rfl) ?_
    refine lv_aload_n C.1 C.2.1 d_Choice_gatherTags_17 rfl (lv_at hl 0 rfl) ?_
    refine gf_Choice_9 C hK hE d_Choice_gatherTags_18 ?_
    refine E_calli hsz hE (va_runV (As := []) (rest := [.int (zI node)]) C (c_Tree_size l D cI cZ cQ ad H.size T M Cc J Rr Ls ) (E_cwV C.2.2.2.2 lw_good cw_Choice_30 rfl rfl hd_Tree_size ⟨Nat.le_trans (Nat.le_of_ble_eq_true rfl) hRf, Nat.le_trans (Nat.le_of_ble_eq_true rfl) hRl⟩) (E_preV hK hE (q := (R_Tree, F_Tree, 9)) (ci := 4) (q0 := 1) rfl rfl) rfl rfl hl.1 rfl (lv_room (Nat.le_of_ble_eq_true rfl)) d_Choice_gatherTags_21 ⟨Nat.zero_le _, Nat.zero_le _⟩) (fun r u H locs hw hE => ?_)
    subst hw
    refine zx_icmp_ge (tgt := 61) C.1 C.2.1 d_Choice_gatherTags_24 (by decide) (by omega) (fun c_1 => ?_) (fun c_1 => ?_)
    · rw [show lf_Choice_gatherTags_16 T (n + 1) node Cc = (node, Cc) from by simp only [lf_Choice_gatherTags_16, if_pos c_1]] at kk0
      exact kk0 H locs ls hE (lv_sub hl [0, 1] rfl)
    · refine lv_aload_n C.1 C.2.1 d_Choice_gatherTags_27 rfl (lv_at hl 0 rfl) ?_
      refine gf_Choice_15 C hK hE d_Choice_gatherTags_28 ?_
      refine lv_iload_n C.1 C.2.1 d_Choice_gatherTags_31 rfl (lv_at hl 1 rfl) ?_
      refine lv_aload_n C.1 C.2.1 d_Choice_gatherTags_32 rfl (lv_at hl 0 rfl) ?_
      refine gf_Choice_9 C hK hE d_Choice_gatherTags_33 ?_
      refine lv_iload_n C.1 C.2.1 d_Choice_gatherTags_36 rfl (lv_at hl 1 rfl) ?_
      refine E_calli hsz hE (va_runV (As := [.int (zI node)]) (rest := [.int (zI node), .ref (ad 16)]) C (c_Tree_tagsOf l D cI cZ cQ ad H.size T M Cc J Rr Ls node (show 0 ≤ node ∧ node < 24 by omega)) (E_cwV C.2.2.2.2 lw_good cw_Choice_47 rfl rfl hd_Tree_tagsOf ⟨Nat.le_trans (Nat.le_of_ble_eq_true rfl) hRf, Nat.le_trans (Nat.le_of_ble_eq_true rfl) hRl⟩) (E_preV hK hE (q := (R_Tree, F_Tree, 9)) (ci := 4) (q0 := 1) rfl rfl) rfl rfl hl.1 rfl (lv_room (Nat.le_of_ble_eq_true rfl)) d_Choice_gatherTags_37 ⟨Nat.zero_le _, Nat.zero_le _⟩) (fun r u H locs hw hE => ?_)
      subst hw
      have hb_2 : 0 ≤ (g_tag T) node ∧ (g_tag T) node ≤ 255 := hT.2.2.2.1 node
      refine lv_aload_n C.1 C.2.1 d_Choice_gatherTags_40 rfl (lv_at hl 0 rfl) ?_
      refine gf_Choice_15 C hK hE d_Choice_gatherTags_41 ?_
      refine lv_aload_n C.1 C.2.1 d_Choice_gatherTags_44 rfl (lv_at hl 0 rfl) ?_
      refine gf_Choice_9 C hK hE d_Choice_gatherTags_45 ?_
      refine lv_iload_n C.1 C.2.1 d_Choice_gatherTags_48 rfl (lv_at hl 1 rfl) ?_
      refine E_calli hsz hE (va_runV (As := [.int (zI node)]) (rest := [.ref (ad 16), .int (zI ((g_tag T) node)), .int (zI node), .ref (ad 16)]) C (c_Tree_parentOf l D cI cZ cQ ad H.size T M Cc J Rr Ls node (show 0 ≤ node ∧ node < 24 by omega)) (E_cwV C.2.2.2.2 lw_good cw_Choice_51 rfl rfl hd_Tree_parentOf ⟨Nat.le_trans (Nat.le_of_ble_eq_true rfl) hRf, Nat.le_trans (Nat.le_of_ble_eq_true rfl) hRl⟩) (E_preV hK hE (q := (R_Tree, F_Tree, 9)) (ci := 4) (q0 := 1) rfl rfl) rfl rfl hl.1 rfl (lv_room (Nat.le_of_ble_eq_true rfl)) d_Choice_gatherTags_49 ⟨Nat.zero_le _, Nat.zero_le _⟩) (fun r u H locs hw hE => ?_)
      subst hw
      have hb_3 : -1 ≤ (g_par T) node ∧ (g_par T) node < 24 := hT.1 node
      refine al_alt (x := ((g_alt Cc) ((g_par T) node))) C hK hE (by omega) rfl d_Choice_gatherTags_52 ?_
      refine zx_ior C.1 C.2.1 d_Choice_gatherTags_53 ?_
      have hb_4 := ior_bd ((g_tag T) node) ((g_alt Cc) ((g_par T) node))
      refine as_alt C hK hE (by omega) d_Choice_gatherTags_54 (fun H locs hE => ?_)
      have hE : EW D vwCl (AE (adL ad) sz) (wE cI cZ cQ ad T M ((iup (g_alt Cc) node (ior ((g_tag T) node) ((g_alt Cc) ((g_par T) node)))), (g_cho Cc), (g_nch Cc)) J Rr Ls) s.heap H locs := hE
      refine zx_iinc (lv' := [(1, .int (zI (node + 1))), (0, .ref (ad 15))]) C.1 C.2.1 d_Choice_gatherTags_55 hl (k := 1) rfl (by decide) rfl (fun ls hl => ?_)
      refine lv_goto (tgt := 16) C.1 C.2.1 d_Choice_gatherTags_58 (by decide) ?_
      have e_5 : lf_Choice_gatherTags_16 T (n + 1) node Cc = lf_Choice_gatherTags_16 T n (node + 1) ((iup (g_alt Cc) node (ior ((g_tag T) node) ((g_alt Cc) ((g_par T) node)))), (g_cho Cc), (g_nch Cc)) := by simp only [lf_Choice_gatherTags_16, if_neg c_1]
      rw [e_5] at kk0
      exact ih (node + 1) ((iup (g_alt Cc) node (ior ((g_tag T) node) ((g_alt Cc) ((g_par T) node)))), (g_cho Cc), (g_nch Cc))  (by omega) (by omega) H locs ls hE (lv_sub hl [1, 0] rfl) kk0
def f_Choice_gatherTags (T : TSt) (Cc : CSt) : CSt := ((lf_Choice_gatherTags_16 T ((g_tsz T - 1).toNat + 1) 1 ((iup (g_alt Cc) 0 ((g_tag T) 0)), (g_cho Cc), (g_nch Cc))).2)
set_option maxHeartbeats 4000000 in
set_option maxRecDepth 100000 in
theorem c_Choice_gatherTags (l : Launch) (D : va_G) (cI cZ cQ : ClassId) (ad : Nat → Nat) (sz : Nat) (T : TSt) (M : MSt) (Cc : CSt) (J : JSt) (Rr : RSt) (Ls : LSt)  (hT : TI T) : Met l y_Choice_gatherTags (Cond.code y_Choice_gatherTags b_Choice_gatherTags 2 none :: Wl) { frames := 1, cells := 0, slots := 0, locals := 21 } (PE D vwCl (tyE cI cZ cQ) (wE cI cZ cQ ad T M Cc J Rr Ls) sz [.ref (ad 15)]) (QEv D vwCl (adL ad) sz (fun (_ : Unit) => True) (fun (_ : Unit) => (wE cI cZ cQ ad T M (f_Choice_gatherTags T Cc) J Rr Ls))) 0 0 (AE (adL ad) sz) := by
  refine E_start (by decide) wE_L (Nat.le_of_ble_eq_true rfl) ?_
  intro p e s m args below meth c C hr hlk hnm hsz hK H locs hE ls hl
  have C : CallFix p m c b_Choice_gatherTags 2 s args Wl R_Choice := C
  have hl : lv_has ls 2 [(0, .ref (ad 15))] := hl
  have htsz := TI_sz hT
  refine lv_aload_n C.1 C.2.1 d_Choice_gatherTags_0 rfl (lv_at hl 0 rfl) ?_
  refine gf_Choice_15 C hK hE d_Choice_gatherTags_1 ?_
  refine zx_iconst C.1 C.2.1 d_Choice_gatherTags_4 ?_
  refine lv_aload_n C.1 C.2.1 d_Choice_gatherTags_5 rfl (lv_at hl 0 rfl) ?_
  refine gf_Choice_9 C hK hE d_Choice_gatherTags_6 ?_
  refine zx_iconst C.1 C.2.1 d_Choice_gatherTags_9 ?_
  refine E_calli hsz hE (va_runV (As := [.int (zI 0)]) (rest := [.int (zI 0), .ref (ad 16)]) C (c_Tree_tagsOf l D cI cZ cQ ad H.size T M Cc J Rr Ls 0 (show 0 ≤ 0 ∧ 0 < 24 by omega)) (E_cwV C.2.2.2.2 lw_good cw_Choice_47 rfl rfl hd_Tree_tagsOf ⟨Nat.le_of_ble_eq_true rfl, Nat.le_of_ble_eq_true rfl⟩) (E_preV hK hE (q := (R_Tree, F_Tree, 9)) (ci := 4) (q0 := 1) rfl rfl) rfl rfl hl.1 rfl (lv_room (Nat.le_of_ble_eq_true rfl)) d_Choice_gatherTags_10 ⟨Nat.zero_le _, Nat.zero_le _⟩) (fun r u H locs hw hE => ?_)
  subst hw
  have hb_1 : 0 ≤ (g_tag T) 0 ∧ (g_tag T) 0 ≤ 255 := hT.2.2.2.1 0
  refine as_alt C hK hE (by omega) d_Choice_gatherTags_13 (fun H locs hE => ?_)
  have hE : EW D vwCl (AE (adL ad) sz) (wE cI cZ cQ ad T M ((iup (g_alt Cc) 0 ((g_tag T) 0)), (g_cho Cc), (g_nch Cc)) J Rr Ls) s.heap H locs := hE
  refine zx_iconst C.1 C.2.1 d_Choice_gatherTags_14 ?_
  refine lv_istore_n (lv' := [(1, .int (zI 1)), (0, .ref (ad 15))]) C.1 C.2.1 d_Choice_gatherTags_15 rfl hl (by decide) rfl (fun ls hl => ?_)
  refine lw_Choice_gatherTags_16 l D cI cZ cQ ad sz T M J Rr Ls  hT  C hsz hK (Nat.le_of_ble_eq_true rfl) (Nat.le_of_ble_eq_true rfl) ((g_tsz T - 1).toNat + 1) 1 ((iup (g_alt Cc) 0 ((g_tag T) 0)), (g_cho Cc), (g_nch Cc))  (by omega) (Nat.lt_succ_self _) H locs ls hE (lv_sub hl [1, 0] rfl) (fun H locs ls hE hl => ?_)
  rw [show f_Choice_gatherTags T Cc = ((lf_Choice_gatherTags_16 T ((g_tsz T - 1).toNat + 1) 1 ((iup (g_alt Cc) 0 ((g_tag T) 0)), (g_cho Cc), (g_nch Cc))).2) from rfl]
  exact E_vret C hr hlk () hE trivial d_Choice_gatherTags_61

def lf_Choice_chooseContainers_10 (T : TSt) : Nat → Int → CSt → Int × CSt
  | 0, node, Cc => (node, Cc)
  | n + 1, node, Cc => if node ≤ 0 then (node, Cc) else if ((g_cho Cc) node) = 0 then lf_Choice_chooseContainers_10 T n (node + (-1)) Cc else lf_Choice_chooseContainers_10 T n (node + (-1)) ((g_alt Cc), (iup (g_cho Cc) ((g_par T) node) 1), (g_nch Cc))
set_option maxHeartbeats 4000000 in
set_option maxRecDepth 100000 in
theorem lw_Choice_chooseContainers_10 (l : Launch) (D : va_G) (cI cZ cQ : ClassId) (ad : Nat → Nat) (sz : Nat) (T : TSt) (M : MSt) (J : JSt) (Rr : RSt) (Ls : LSt)  (hT : TI T)  {p : Program} {e : Env} {R : Room} {s : State} {m : MethodId} {args : Array Value} {below : List Frame} {meth : Method} {c : Code} {Q : State → Prop} (C : CallFix p m c b_Choice_chooseContainers 2 s args Wl R_Choice) (hsz : s.heap.size = sz) (hK : KN D vwCl (tyE cI cZ cQ) s) (hRf : 1 ≤ R.frames) (hRl : 21 ≤ R.locals) : ∀ (n : Nat) (node : Int) (Cc : CSt) , (node < g_tsz T ∧ 0 ≤ node) → (∀ k, g_cho Cc k = 0 ∨ g_cho Cc k = 1) → (node.toNat < n) → ∀ (H : Heap) (locs : List Loc) (ls : Array Slot), EW D vwCl (AE (adL ad) sz) (wE cI cZ cQ ad T M Cc J Rr Ls) s.heap H locs → lv_has ls 2 [(0, .ref (ad 15)), (1, .int (zI node))] → (∀ (H : Heap) (locs : List Loc) (ls : Array Slot), EW D vwCl (AE (adL ad) sz) (wE cI cZ cQ ad T M ((lf_Choice_chooseContainers_10 T n node Cc).2) J Rr Ls) s.heap H locs → lv_has ls 2 [(0, .ref (ad 15)), (1, .int (zI ((lf_Choice_chooseContainers_10 T n node Cc).1)))] → W p l e R s m args below meth c H locs 0 0 Q (F0 m 43 ls [])) → W p l e R s m args below meth c H locs 0 0 Q (F0 m 10 ls []) := by
  intro n
  induction n with
  | zero =>
    intro node Cc hi1 hcho hn
    exact absurd hn (Nat.not_lt_zero _)
  | succ n ih =>
    intro node Cc hi1 hcho hn H locs ls hE hl kk0
    have htsz := TI_sz hT
    have hq := TI_par hT node
    refine lv_iload_n C.1 C.2.1 d_Choice_chooseContainers_10 rfl (lv_at hl 1 rfl) ?_
    refine zx_if_le (tgt := 43) C.1 C.2.1 d_Choice_chooseContainers_11 (by decide) (by omega) (fun c_1 => ?_) (fun c_1 => ?_)
    · rw [show lf_Choice_chooseContainers_10 T (n + 1) node Cc = (node, Cc) from by simp only [lf_Choice_chooseContainers_10, if_pos c_1]] at kk0
      exact kk0 H locs ls hE (lv_sub hl [0, 1] rfl)
    · refine lv_aload_n C.1 C.2.1 d_Choice_chooseContainers_14 rfl (lv_at hl 0 rfl) ?_
      refine gf_Choice_19 C hK hE d_Choice_chooseContainers_15 ?_
      refine lv_iload_n C.1 C.2.1 d_Choice_chooseContainers_18 rfl (lv_at hl 1 rfl) ?_
      refine al_cho (x := ((g_cho Cc) node)) C hK hE (by omega) rfl d_Choice_chooseContainers_19 ?_
      have hb_2 : (g_cho Cc) node = 0 ∨ (g_cho Cc) node = 1 := hcho node
      refine zx_if_eq (tgt := 37) C.1 C.2.1 d_Choice_chooseContainers_20 (by decide) (by omega) (fun c_3 => ?_) (fun c_3 => ?_)
      · refine zx_iinc (lv' := [(1, .int (zI (node + (-1)))), (0, .ref (ad 15))]) C.1 C.2.1 d_Choice_chooseContainers_37 hl (k := 1) rfl (by decide) rfl (fun ls hl => ?_)
        refine lv_goto (tgt := 10) C.1 C.2.1 d_Choice_chooseContainers_40 (by decide) ?_
        have e_4 : lf_Choice_chooseContainers_10 T (n + 1) node Cc = lf_Choice_chooseContainers_10 T n (node + (-1)) Cc := by simp only [lf_Choice_chooseContainers_10, if_neg c_1, if_pos c_3]
        rw [e_4] at kk0
        exact ih (node + (-1)) Cc  (by omega) hcho (by omega) H locs ls hE (lv_sub hl [1, 0] rfl) kk0
      · refine lv_aload_n C.1 C.2.1 d_Choice_chooseContainers_23 rfl (lv_at hl 0 rfl) ?_
        refine gf_Choice_19 C hK hE d_Choice_chooseContainers_24 ?_
        refine lv_aload_n C.1 C.2.1 d_Choice_chooseContainers_27 rfl (lv_at hl 0 rfl) ?_
        refine gf_Choice_9 C hK hE d_Choice_chooseContainers_28 ?_
        refine lv_iload_n C.1 C.2.1 d_Choice_chooseContainers_31 rfl (lv_at hl 1 rfl) ?_
        refine E_calli hsz hE (va_runV (As := [.int (zI node)]) (rest := [.ref (ad 17)]) C (c_Tree_parentOf l D cI cZ cQ ad H.size T M Cc J Rr Ls node (show 0 ≤ node ∧ node < 24 by omega)) (E_cwV C.2.2.2.2 lw_good cw_Choice_51 rfl rfl hd_Tree_parentOf ⟨Nat.le_trans (Nat.le_of_ble_eq_true rfl) hRf, Nat.le_trans (Nat.le_of_ble_eq_true rfl) hRl⟩) (E_preV hK hE (q := (R_Tree, F_Tree, 9)) (ci := 4) (q0 := 1) rfl rfl) rfl rfl hl.1 rfl (lv_room (Nat.le_of_ble_eq_true rfl)) d_Choice_chooseContainers_32 ⟨Nat.zero_le _, Nat.zero_le _⟩) (fun r u H locs hw hE => ?_)
        subst hw
        have hb_5 : -1 ≤ (g_par T) node ∧ (g_par T) node < 24 := hT.1 node
        refine zx_iconst C.1 C.2.1 d_Choice_chooseContainers_35 ?_
        refine as_cho C hK hE (by omega) (by omega) d_Choice_chooseContainers_36 (fun H locs hE => ?_)
        have hE : EW D vwCl (AE (adL ad) sz) (wE cI cZ cQ ad T M ((g_alt Cc), (iup (g_cho Cc) ((g_par T) node) 1), (g_nch Cc)) J Rr Ls) s.heap H locs := hE
        refine zx_iinc (lv' := [(1, .int (zI (node + (-1)))), (0, .ref (ad 15))]) C.1 C.2.1 d_Choice_chooseContainers_37 hl (k := 1) rfl (by decide) rfl (fun ls hl => ?_)
        refine lv_goto (tgt := 10) C.1 C.2.1 d_Choice_chooseContainers_40 (by decide) ?_
        have e_6 : lf_Choice_chooseContainers_10 T (n + 1) node Cc = lf_Choice_chooseContainers_10 T n (node + (-1)) ((g_alt Cc), (iup (g_cho Cc) ((g_par T) node) 1), (g_nch Cc)) := by simp only [lf_Choice_chooseContainers_10, if_neg c_1, if_neg c_3]
        rw [e_6] at kk0
        exact ih (node + (-1)) ((g_alt Cc), (iup (g_cho Cc) ((g_par T) node) 1), (g_nch Cc))  (by omega) (iup_b hcho (by omega)) (by omega) H locs ls hE (lv_sub hl [1, 0] rfl) kk0
def f_Choice_chooseContainers (T : TSt) (Cc : CSt) : CSt := ((lf_Choice_chooseContainers_10 T (((g_tsz T) - 1).toNat + 1) ((g_tsz T) - 1) Cc).2)
set_option maxHeartbeats 4000000 in
set_option maxRecDepth 100000 in
theorem c_Choice_chooseContainers (l : Launch) (D : va_G) (cI cZ cQ : ClassId) (ad : Nat → Nat) (sz : Nat) (T : TSt) (M : MSt) (Cc : CSt) (J : JSt) (Rr : RSt) (Ls : LSt)  (hT : TI T) (hcho : ∀ k, g_cho Cc k = 0 ∨ g_cho Cc k = 1) : Met l y_Choice_chooseContainers (Cond.code y_Choice_chooseContainers b_Choice_chooseContainers 2 none :: Wl) { frames := 1, cells := 0, slots := 0, locals := 21 } (PE D vwCl (tyE cI cZ cQ) (wE cI cZ cQ ad T M Cc J Rr Ls) sz [.ref (ad 15)]) (QEv D vwCl (adL ad) sz (fun (_ : Unit) => True) (fun (_ : Unit) => (wE cI cZ cQ ad T M (f_Choice_chooseContainers T Cc) J Rr Ls))) 0 0 (AE (adL ad) sz) := by
  refine E_start (by decide) wE_L (Nat.le_of_ble_eq_true rfl) ?_
  intro p e s m args below meth c C hr hlk hnm hsz hK H locs hE ls hl
  have C : CallFix p m c b_Choice_chooseContainers 2 s args Wl R_Choice := C
  have hl : lv_has ls 2 [(0, .ref (ad 15))] := hl
  have htsz := TI_sz hT
  refine lv_aload_n C.1 C.2.1 d_Choice_chooseContainers_0 rfl (lv_at hl 0 rfl) ?_
  refine gf_Choice_9 C hK hE d_Choice_chooseContainers_1 ?_
  refine E_calli hsz hE (va_runV (As := []) (rest := []) C (c_Tree_size l D cI cZ cQ ad H.size T M Cc J Rr Ls ) (E_cwV C.2.2.2.2 lw_good cw_Choice_30 rfl rfl hd_Tree_size ⟨Nat.le_of_ble_eq_true rfl, Nat.le_of_ble_eq_true rfl⟩) (E_preV hK hE (q := (R_Tree, F_Tree, 9)) (ci := 4) (q0 := 1) rfl rfl) rfl rfl hl.1 rfl (lv_room (Nat.le_of_ble_eq_true rfl)) d_Choice_chooseContainers_4 ⟨Nat.zero_le _, Nat.zero_le _⟩) (fun r u H locs hw hE => ?_)
  subst hw
  refine zx_iconst C.1 C.2.1 d_Choice_chooseContainers_7 ?_
  refine zx_isub C.1 C.2.1 d_Choice_chooseContainers_8 ?_
  refine lv_istore_n (lv' := [(1, .int (zI ((g_tsz T) - 1))), (0, .ref (ad 15))]) C.1 C.2.1 d_Choice_chooseContainers_9 rfl hl (by decide) rfl (fun ls hl => ?_)
  refine lw_Choice_chooseContainers_10 l D cI cZ cQ ad sz T M J Rr Ls  hT  C hsz hK (Nat.le_of_ble_eq_true rfl) (Nat.le_of_ble_eq_true rfl) (((g_tsz T) - 1).toNat + 1) ((g_tsz T) - 1) Cc  (by omega) hcho (Nat.lt_succ_self _) H locs ls hE (lv_sub hl [1, 0] rfl) (fun H locs ls hE hl => ?_)
  rw [show f_Choice_chooseContainers T Cc = ((lf_Choice_chooseContainers_10 T (((g_tsz T) - 1).toNat + 1) ((g_tsz T) - 1) Cc).2) from rfl]
  exact E_vret C hr hlk () hE trivial d_Choice_chooseContainers_43
end
