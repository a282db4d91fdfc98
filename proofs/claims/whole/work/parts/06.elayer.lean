/-! Contracts over one world: PE, QEi, QEv; a method's start, its ends, a call. -/
def AE (L : List Nat) (sz : Nat) : Nat → Prop := fun q => q ∈ L ∨ sz ≤ q
def EW (D : va_G) (cl : List vw_C) (A : Nat → Prop) (ws : va_W) (H0 H : Heap) (locs : List Loc) : Prop := va_P D cl ws H ∧ va_D A ws ∧ va_S A H0 H locs
def NW (U : State) : Prop := va_Nw (.methodLinkNest R_Tree 41 y_Engine_isWithin "LifecycleEngine") U ∧ va_Nw (.methodLinkNest R_Journal 53 y_Engine_isWithin "LifecycleEngine") U ∧ va_Nw (.methodLinkNest R_Runner 54 y_Engine_isWithin "LifecycleEngine") U
theorem NW.warm {s U : State} (hW : s.WarmedH U.vm) (h : NW s) : NW U := ⟨h.1.warmM hW, h.2.1.warmM hW, h.2.2.warmM hW⟩
theorem NW.same {u U : State} (hW : u.vm = U.vm) (h : NW u) : NW U := ⟨h.1.same rfl hW, h.2.1.same rfl hW, h.2.2.same rfl hW⟩
/-- what a method knows of the tables at its start -/
def KN (D : va_G) (cl : List vw_C) (tys : List (ClassId × FieldType)) (U : State) : Prop := va_K D cl tys U ∧ NW U
def PE (D : va_G) (cl : List vw_C) (tys : List (ClassId × FieldType)) (ws : va_W) (sz : Nat) (av : List Value) : Array Value → State → Prop := va_Pc av (fun U => U.heap.size = sz ∧ va_P D cl ws U.heap ∧ KN D cl tys U ∧ va_D (fun _ => True) ws)
def BE {S : Type} (D : va_G) (cl : List vw_C) (L : List Nat) (sz : Nat) (wf : S → va_W) (u : S) (t : State) : Prop := va_P D cl (wf u) t.heap ∧ va_D (AE L sz) (wf u)
def QEi {S : Type} (D : va_G) (cl : List vw_C) (L : List Nat) (sz : Nat) (post : Int32 → S → Prop) (wf : S → va_W) : Array Value → State → Outcome → State → Prop := va_Qi post (BE D cl L sz wf) (AE L sz)
def QEv {S : Type} (D : va_G) (cl : List vw_C) (L : List Nat) (sz : Nat) (post : S → Prop) (wf : S → va_W) : Array Value → State → Outcome → State → Prop := va_Qv post (BE D cl L sz wf) (AE L sz)
theorem AE_of {ws : va_W} {L : List Nat} {sz : Nat} (hL : ws.map Prod.fst = L) : ∀ (k : Nat) (q : Nat × va_E), ws[k]? = some q → AE L sz q.1 := by
  intro k q hk
  refine Or.inl ?_
  rw [← hL]
  exact List.mem_map_of_mem (List.mem_of_getElem? hk)
theorem PE_blind {D : va_G} {cl : List vw_C} {tys : List (ClassId × FieldType)} {ws : va_W} {sz : Nat} {av : List Value} : FrameBlind (PE D cl tys ws sz av) := fun a U g mk q => by
  obtain ⟨q0, q1, qP, qK, qD⟩ := q
  exact ⟨q0, q1, qP, ⟨va_K.moved (u := U) (U := U.calling g mk a) (Vm.Alike.refl U.vm) qK.1, qK.2.same (U := U.calling g mk a) rfl⟩, qD⟩
theorem E_start {l : Launch} {y : MethodName} {Wx : List Cond} {rm : Room} {cc : ByteArray} {maxL : Nat} {ret : Option FieldType} {D : va_G} {cl : List vw_C} {tys : List (ClassId × FieldType)} {ws : va_W} {sz : Nat} {av : List Value} {L : List Nat} {Qc : Array Value → State → Outcome → State → Prop} (hy : plainName y.cls = true) (hL : ws.map Prod.fst = L) (hav : (lg_sl av).length ≤ maxL) {mc ms : Nat}
    (body : ∀ (p : Program) (e : Env) (s : State) (m : MethodId) (args : Array Value) (below : List Frame) (meth : Method) (c : Code), CallFix p m c cc maxL s args Wx y.cls → meth.sig.returnType = ret → meth.locks = false → meth.name = y.name → s.heap.size = sz → KN D cl tys s → ∀ (H : Heap) (locs : List Loc), EW D cl (AE L sz) ws s.heap H locs → ∀ ls : Array Slot, lv_has ls maxL (lv_args 0 av) →
      W p l e rm s m args below meth c H locs 0 0 (MQ below Qc args s mc ms (AE L sz)) (F0 m 0 ls [])) :
    Met l y (Cond.code y cc maxL ret :: Wx) rm (PE D cl tys ws sz av) Qc mc ms (AE L sz) := by
  refine Met.ofW (cc := cc) (maxL := maxL) (ret := ret) hy rfl ?_
  intro p e s m args below meth c s₁ B hml hv
  obtain ⟨rfl, hsz, hP, hK, hD0⟩ := hv
  have hts := atoms_spec (ws := Cond.code y cc maxL ret :: Wx) B.pre
  have hown : s.vm.findClass y.cls = some m.cls := findClass_of_methodNamed B.named
  have hin : meth.name = y.name := (name_of_methodNamed B.named B.method).1
  have hl := lv_entry av (n := maxL) hav
  rw [lg_entry_eq]
  exact body p e s m _ below meth c ⟨B.exec, B.bytes, hml, hown, fun w hw => hts w (List.mem_cons_of_mem _ hw)⟩ B.returns B.notSynchronized hin hsz hK _ _ ⟨hP, ⟨hD0.1, AE_of hL⟩, va_S.rf⟩ _ hl
section EL
variable {p : Program} {l : Launch} {e : Env} {R : Room} {s : State} {m : MethodId} {args : Array Value} {below : List Frame} {meth : Method} {c : Code} {H : Heap} {locs : List Loc} {cells slots : Nat} {Q : State → Prop} {cc : ByteArray} {pc nL : Nat} {ls : Array Slot} {rest : List Value} {D : va_G} {cl : List vw_C} {tys : List (ClassId × FieldType)} {Wx : List Cond} {own : String} {L : List Nat} {sz : Nat}
theorem E_iret {S : Type} {wf : S → va_W} {post : Int32 → S → Prop} (C : CallFix p m c cc nL s args Wx own) (hr : meth.sig.returnType = some .int) (hlk : meth.locks = false) (u : S) {v : Int32} (hE : EW D cl (AE L sz) (wf u) s.heap H locs) (hp : post v u) (hdg : decode cc pc = .ok (.ireturn, 1)) :
    W p l e R s m args below meth c H locs cells slots (MQ below (QEi D cl L sz post wf) args s cells slots (AE L sz)) (F0 m pc ls [.int v]) :=
  W.iret C.1 C.2.1 hr (fun t ht hW => ⟨⟨v, u, rfl, hp, by rw [ht]; exact hE.1, hE.2.1⟩, hE.2.2.F ht⟩) hE.2.2.2.2 hdg hlk
theorem E_zret {S : Type} {wf : S → va_W} {post : Int32 → S → Prop} (C : CallFix p m c cc nL s args Wx own) (hr : meth.sig.returnType = some .boolean) (hlk : meth.locks = false) (u : S) {v : Int} (hv : v = 0 ∨ v = 1) (hE : EW D cl (AE L sz) (wf u) s.heap H locs) (hp : post (zI v) u) (hdg : decode cc pc = .ok (.ireturn, 1)) :
    W p l e R s m args below meth c H locs cells slots (MQ below (QEi D cl L sz post wf) args s cells slots (AE L sz)) (F0 m pc ls [.int (zI v)]) :=
  W.zret C.1 C.2.1 hr (zB_nar hv) (fun t ht hW => ⟨⟨zI v, u, rfl, hp, by rw [ht]; exact hE.1, hE.2.1⟩, hE.2.2.F ht⟩) hE.2.2.2.2 hdg hlk
theorem E_vret {S : Type} {wf : S → va_W} {post : S → Prop} (C : CallFix p m c cc nL s args Wx own) (hr : meth.sig.returnType = none) (hlk : meth.locks = false) (u : S) (hE : EW D cl (AE L sz) (wf u) s.heap H locs) (hp : post u) (hdg : decode cc pc = .ok (.return_, 1)) :
    W p l e R s m args below meth c H locs cells slots (MQ below (QEv D cl L sz post wf) args s cells slots (AE L sz)) (F0 m pc ls []) :=
  W.vret C.1 C.2.1 hr (fun t ht hW => ⟨⟨u, rfl, hp, by rw [ht]; exact hE.1, hE.2.1⟩, hE.2.2.F ht⟩) hE.2.2.2.2 hdg hlk
theorem E_preV {A : Nat → Prop} {ws : va_W} {H0 : Heap} {b : Addr} {As : List Value} {q0 ci : Nat} {q : vw_C} {fs : List Value} (hK : KN D cl tys s) (hE : EW D cl A ws H0 H locs) (hc : cl[ci]? = some q) (he : ws[q0]? = some (b, .inr (ci, fs))) : PreV s H q.1 b (PE D cl tys ws H.size (.ref b :: As)) As :=
  ⟨PE_blind, va_recv hK.1 hE.1 hc he, fun U hU hW => ⟨rfl, by rw [hU], by rw [hU]; exact hE.1, ⟨va_K.moved hW.alike hK.1, hK.2.warm hW⟩, hE.2.1.weaken (fun _ _ _ _ => trivial)⟩⟩
theorem E_preS {A : Nat → Prop} {ws : va_W} {H0 : Heap} {As : List Value} (hK : KN D cl tys s) (hE : EW D cl A ws H0 H locs) : PreS s H (PE D cl tys ws H.size As) As :=
  ⟨PE_blind, fun U hU hW => ⟨rfl, by rw [hU], by rw [hU]; exact hE.1, ⟨va_K.moved hW.alike hK.1, hK.2.warm hW⟩, hE.2.1.weaken (fun _ _ _ _ => trivial)⟩⟩
theorem AE_sub {A : Nat → Prop} {H0 : Heap} (hS : va_S (AE L H0.size) H0 H locs) : ∀ q, AE L H.size q → AE L H0.size q := fun q h => by
  rcases h with h | h
  · exact Or.inl h
  · exact Or.inr (Nat.le_trans hS.1 h)
theorem E_calli {S : Type} {wf : S → va_W} {ws : va_W} {post : Int32 → S → Prop} {a : Array Value} {st0 : List Value} (hsz : s.heap.size = sz) (hE : EW D cl (AE L sz) ws s.heap H locs)
    (hr : va_Run p l e R s m args below meth c H locs cells slots 0 0 (F0 m pc ls st0) rest (QEi D cl L H.size post wf a) (AE L H.size))
    (kk : ∀ (r : Int32) (u : S) (H1 : Heap) (locs1 : List Loc), post r u → EW D cl (AE L sz) (wf u) s.heap H1 locs1 → W p l e R s m args below meth c H1 locs1 cells slots Q (F0 m (pc + 3) ls (.int r :: rest))) : W p l e R s m args below meth c H locs cells slots Q (F0 m pc ls st0) := by
  subst hsz
  have hsub := AE_sub (A := AE L s.heap.size) hE.2.2
  exact va_calli hr hE.2.2 (fun q _ h => hsub q h) hsub (fun r u t H1 locs1 ht hvm hw hB hz1 hk1 hS => kk r u H1 locs1 hw ⟨by rw [← ht]; exact hB.1, hB.2.weaken (fun _ q _ h => hsub q.1 h), hS⟩)
theorem E_callv {S : Type} {wf : S → va_W} {ws : va_W} {post : S → Prop} {a : Array Value} {st0 : List Value} (hsz : s.heap.size = sz) (hE : EW D cl (AE L sz) ws s.heap H locs)
    (hr : va_Run p l e R s m args below meth c H locs cells slots 0 0 (F0 m pc ls st0) rest (QEv D cl L H.size post wf a) (AE L H.size))
    (kk : ∀ (u : S) (H1 : Heap) (locs1 : List Loc), post u → EW D cl (AE L sz) (wf u) s.heap H1 locs1 → W p l e R s m args below meth c H1 locs1 cells slots Q (F0 m (pc + 3) ls rest)) : W p l e R s m args below meth c H locs cells slots Q (F0 m pc ls st0) := by
  subst hsz
  have hsub := AE_sub (A := AE L s.heap.size) hE.2.2
  exact va_callv hr hE.2.2 (fun q _ h => hsub q h) hsub (fun u t H1 locs1 ht hvm hw hB hz1 hk1 hS => kk u H1 locs1 hw ⟨by rw [← ht]; exact hB.1, hB.2.weaken (fun _ q _ h => hsub q.1 h), hS⟩)
theorem E_cwV {C : String} {index maxL n mc ms : Nat} {y : MethodName} {bytes : ByteArray} {ret : Option FieldType} {rm : Room} (hW : ∀ w ∈ Wx, w.before args s = true) (hG : GoodIn Wx Wx) (hm : ∀ w ∈ (([.methodLink own index y, .instanceMethod y, .selects C y y, .initialized C] : List Cond) ++ [Cond.code y bytes maxL ret]), w ∈ Wx) (hrc : rm.cells = mc) (hrs : rm.slots = ms)
    (hd : y.cls = C ∧ y.cls ≠ "java/lang/invoke/MethodHandle" ∧ y.cls ≠ "java/lang/invoke/VarHandle" ∧ (parseMethodDescriptor y.desc).map (fun d => d.parameters.length) = some n) (hR : rm.frames + 1 ≤ R.frames ∧ 8 + (maxL + 11) + rm.locals ≤ R.locals) :
    CallW R s args own C index y bytes maxL ret (Cond.code y bytes maxL ret :: Wx) rm mc ms n := by
  refine cwV n hW (fun w hw => hG w ?_) rfl hrc hrs hd hR
  rcases List.mem_append.mp hw with h | h
  · exact hm w (List.mem_append_left _ h)
  · rcases List.mem_cons.mp h with rfl | h
    · exact hm _ (List.mem_append_right _ List.mem_cons_self)
    · exact h
theorem E_cwN {host : String} {index maxL n mc ms : Nat} {y : MethodName} {bytes : ByteArray} {ret : Option FieldType} {rm : Room} (hW : ∀ w ∈ Wx, w.before args s = true) (hG : GoodIn Wx Wx) (hl : va_Nw (.methodLinkNest own index y host) s) (hm : ∀ w ∈ (([.static y, .initialized y.cls] : List Cond) ++ [Cond.code y bytes maxL ret]), w ∈ Wx) (hrc : rm.cells = mc) (hrs : rm.slots = ms)
    (hd : y.cls ≠ "java/lang/invoke/MethodHandle" ∧ y.cls ≠ "java/lang/invoke/VarHandle" ∧ (parseMethodDescriptor y.desc).map (fun d => d.parameters.length) = some n) (hR : rm.frames + 1 ≤ R.frames ∧ 8 + (maxL + 11) + rm.locals ≤ R.locals) :
    va_CN R s args own index y host bytes maxL ret (Cond.code y bytes maxL ret :: Wx) rm mc ms n ∧ (Cond.static y).before args s = true ∧ True := by
  have hb : ∀ w ∈ (([.static y, .initialized y.cls] : List Cond) ++ [Cond.code y bytes maxL ret]), w.before args s = true := fun w h => hW w (hm w h)
  refine ⟨va_cnB n hW (fun w hw => hG w ?_) rfl hrc hrs hl (hb _ (by simp)) hd hR, hb _ (by simp), trivial⟩
  rcases List.mem_cons.mp hw with rfl | h
  · exact hm _ (List.mem_append_right _ List.mem_cons_self)
  · exact h
theorem E_cwS {index maxL n mc ms : Nat} {y : MethodName} {bytes : ByteArray} {ret : Option FieldType} {rm : Room} (hW : ∀ w ∈ Wx, w.before args s = true) (hG : GoodIn Wx Wx) (hm : ∀ w ∈ (([.methodLink own index y, .static y, .initialized y.cls] : List Cond) ++ [Cond.code y bytes maxL ret]), w ∈ Wx) (hrc : rm.cells = mc) (hrs : rm.slots = ms)
    (hd : y.cls ≠ "java/lang/invoke/MethodHandle" ∧ y.cls ≠ "java/lang/invoke/VarHandle" ∧ (parseMethodDescriptor y.desc).map (fun d => d.parameters.length) = some n) (hR : rm.frames + 1 ≤ R.frames ∧ 8 + (maxL + 11) + rm.locals ≤ R.locals) :
    CallB R s args own index y bytes maxL ret (Cond.code y bytes maxL ret :: Wx) rm mc ms n ∧ (Cond.static y).before args s = true := by
  have hb : ∀ w ∈ (([.methodLink own index y, .static y, .initialized y.cls] : List Cond) ++ [Cond.code y bytes maxL ret]), w.before args s = true := fun w h => hW w (hm w h)
  refine ⟨callB_of n hW (fun w hw => hG w ?_) rfl hrc hrs (hb _ (by simp)) (hb _ (by simp)) hd hR, hb _ (by simp)⟩
  rcases List.mem_cons.mp hw with rfl | h
  · exact hm _ (List.mem_append_right _ List.mem_cons_self)
  · exact h
end EL
