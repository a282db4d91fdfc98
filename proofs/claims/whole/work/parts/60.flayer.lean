/-! The frame layer: a call on a part of the world; new cells; the constructors' rows. -/
theorem AE_va {wc : va_W} {sz q : Nat} : AE (wc.map Prod.fst) sz q ↔ va_A wc sz q := by
  constructor
  · rintro (h | h)
    · obtain ⟨x, hx, rfl⟩ := List.mem_map.mp h
      obtain ⟨k, hk⟩ := List.getElem?_of_mem hx
      exact Or.inl ⟨k, x.2, hk⟩
    · exact Or.inr h
  · rintro (⟨k, e, h⟩ | h)
    · exact Or.inl (List.mem_map.mpr ⟨(q, e), List.mem_of_getElem? h, rfl⟩)
    · exact Or.inr h
theorem cut_fm {ws wc : va_W} {is : List Nat} (h : is.map (fun i => ws[i]?) = wc.map some) : is.filterMap (fun i => ws[i]?) = wc := by
  have h1 : is.filterMap (fun i => ws[i]?) = (is.map (fun i => ws[i]?)).filterMap id := by
    rw [List.filterMap_map]
    rfl
  rw [h1, h, List.filterMap_map]
  exact List.filterMap_some
def PA (D : va_G) (cl : List vw_C) (tys : List (ClassId × FieldType)) (ws : va_W) (sz : Nat) (av : List Value) : Array Value → State → Prop := va_Pc av (fun U => (U.heap.size = sz ∧ va_P D cl ws U.heap ∧ KN D cl tys U ∧ va_D (fun _ => True) ws) ∧ va_AO R_Troubles U)
theorem PA_blind {D : va_G} {cl : List vw_C} {tys : List (ClassId × FieldType)} {ws : va_W} {sz : Nat} {av : List Value} : FrameBlind (PA D cl tys ws sz av) := fun a U g mk q => by
  obtain ⟨q0, ⟨q1, qP, qK, qD⟩, qA⟩ := q
  exact ⟨q0, ⟨q1, qP, ⟨va_K.moved (u := U) (U := U.calling g mk a) (Vm.Alike.refl U.vm) qK.1, qK.2.same (U := U.calling g mk a) rfl⟩, qD⟩, va_AO.moved (u := U) (U := U.calling g mk a) (Vm.Alike.refl U.vm) qA⟩
theorem A_start {l : Launch} {y : MethodName} {Wx : List Cond} {rm : Room} {cc : ByteArray} {maxL : Nat} {ret : Option FieldType} {D : va_G} {cl : List vw_C} {tys : List (ClassId × FieldType)} {ws : va_W} {sz : Nat} {av : List Value} {L : List Nat} {Qc : Array Value → State → Outcome → State → Prop} (hy : plainName y.cls = true) (hL : ws.map Prod.fst = L) (hav : (lg_sl av).length ≤ maxL) {mc ms : Nat}
    (body : ∀ (p : Program) (e : Env) (s : State) (m : MethodId) (args : Array Value) (below : List Frame) (meth : Method) (c : Code), CallFix p m c cc maxL s args Wx y.cls → meth.sig.returnType = ret → meth.locks = false → meth.name = y.name → s.heap.size = sz → KN D cl tys s → va_AO R_Troubles s → ∀ (H : Heap) (locs : List Loc), EW D cl (AE L sz) ws s.heap H locs → ∀ ls : Array Slot, lv_has ls maxL (lv_args 0 av) →
      W p l e rm s m args below meth c H locs 0 0 (MQ below Qc args s mc ms (AE L sz)) (F0 m 0 ls [])) :
    Met l y (Cond.code y cc maxL ret :: Wx) rm (PA D cl tys ws sz av) Qc mc ms (AE L sz) := by
  refine Met.ofW (cc := cc) (maxL := maxL) (ret := ret) hy rfl ?_
  intro p e s m args below meth c s₁ B hml hv
  obtain ⟨rfl, ⟨hsz, hP, hK, hD0⟩, hAO⟩ := hv
  have hts := atoms_spec (ws := Cond.code y cc maxL ret :: Wx) B.pre
  have hown : s.vm.findClass y.cls = some m.cls := findClass_of_methodNamed B.named
  have hin : meth.name = y.name := (name_of_methodNamed B.named B.method).1
  have hl := lv_entry av (n := maxL) hav
  rw [lg_entry_eq]
  exact body p e s m _ below meth c ⟨B.exec, B.bytes, hml, hown, fun w hw => hts w (List.mem_cons_of_mem _ hw)⟩ B.returns B.notSynchronized hin hsz hK hAO _ _ ⟨hP, ⟨hD0.1, AE_of hL⟩, va_S.rf⟩ _ hl
section FL
variable {p : Program} {l : Launch} {e : Env} {R : Room} {s : State} {m : MethodId} {args : Array Value} {below : List Frame} {meth : Method} {c : Code} {H : Heap} {locs : List Loc} {cells slots : Nat} {Q : State → Prop} {cc : ByteArray} {pc nL : Nat} {ls : Array Slot} {rest : List Value} {D : va_G} {cl : List vw_C} {tys : List (ClassId × FieldType)} {Wx : List Cond} {own : String} {A : Nat → Prop} {cI cZ cQ : ClassId}
theorem F_sub {ws wc : va_W} {H0 : Heap} (hE : EW D cl A ws H0 H locs) (isC : List Nat) (hC : isC.map (fun i => ws[i]?) = wc.map some) (hn : va_nd isC = true) : EW D cl A wc H0 H locs := ⟨hE.1.sub isC (cut_fm hC), hE.2.1.sub isC hn hC, hE.2.2⟩
theorem F_preV {ws wc : va_W} {H0 : Heap} {b : Addr} {As : List Value} {q0 ci : Nat} {q : vw_C} {fs : List Value} (hK : KN D cl tys s) (hE : EW D cl A ws H0 H locs) (isC : List Nat) (hC : isC.map (fun i => ws[i]?) = wc.map some) (hn : va_nd isC = true) (hc : cl[ci]? = some q) (he : wc[q0]? = some (b, .inr (ci, fs))) : PreV s H q.1 b (PE D cl tys wc H.size (.ref b :: As)) As := E_preV hK (F_sub hE isC hC hn) hc he
theorem F_preS {ws wc : va_W} {H0 : Heap} {As : List Value} (hK : KN D cl tys s) (hE : EW D cl A ws H0 H locs) (isC : List Nat) (hC : isC.map (fun i => ws[i]?) = wc.map some) (hn : va_nd isC = true) : PreS s H (PE D cl tys wc H.size As) As := E_preS hK (F_sub hE isC hC hn)
theorem F_preA {ws wc : va_W} {H0 : Heap} {As : List Value} (hK : KN D cl tys s) (hAO : va_AO R_Troubles s) (hE : EW D cl A ws H0 H locs) (isC : List Nat) (hC : isC.map (fun i => ws[i]?) = wc.map some) (hn : va_nd isC = true) : PreS s H (PA D cl tys wc H.size As) As := by
  have hF := F_sub hE isC hC hn
  exact ⟨PA_blind, fun U hU hW => ⟨rfl, ⟨by rw [hU], by rw [hU]; exact hF.1, ⟨va_K.moved hW.alike hK.1, hK.2.warm hW⟩, hF.2.1.weaken (fun _ _ _ _ => trivial)⟩, va_AO.moved hW.alike hAO⟩⟩
theorem F_callv {S : Type} {wf : S → va_W} {ws wc wr : va_W} {Lc : List Nat} {mc ms : Nat} {post : S → Prop} {a : Array Value} {st0 : List Value} (hA : ∀ q, s.heap.size ≤ q → A q) (hE : EW D cl A ws s.heap H locs) (isC isR : List Nat) (hC : isC.map (fun i => ws[i]?) = wc.map some) (hR : isR.map (fun i => ws[i]?) = wr.map some) (hn : va_nd isR = true) (hdis : ∀ i ∈ isR, i ∉ isC) (hLc : wc.map Prod.fst = Lc)
    (hr : va_Run p l e R s m args below meth c H locs cells slots mc ms (F0 m pc ls st0) rest (QEv D cl Lc H.size post wf a) (AE Lc H.size))
    (kk : ∀ (u : S) (H1 : Heap) (locs1 : List Loc), post u → EW D cl A (wr ++ wf u) s.heap H1 locs1 → W p l e R s m args below meth c H1 locs1 (cells + mc) (slots + ms) Q (F0 m (pc + 3) ls rest)) : W p l e R s m args below meth c H locs cells slots Q (F0 m pc ls st0) := by
  subst hLc
  have hF := va_free (wc := wc) hE.2.1 hE.2.2 hA isC hC
  have hF' : ∀ q, AE (wc.map Prod.fst) H.size q → A q := fun q h => hF q (AE_va.mp h)
  refine va_callv hr hE.2.2 (fun q _ h => hF' q h) hF' (fun u t H1 locs1 ht hvm hw hB hz1 hk1 hS => ?_)
  have hj := va_join (wr := wr) (w1 := wf u) hE.1 hE.2.1 isC isR hC hR hn hdis (fun q h1 h2 => hk1 q h1 (fun h => h2 (AE_va.mp h))) hF (by rw [← ht]; exact hB.1) ⟨hB.2.1, fun k q h => AE_va.mp (hB.2.2 k q h)⟩
  exact kk u H1 locs1 hw ⟨hj.1, hj.2, hS⟩
theorem F_calli {S : Type} {wf : S → va_W} {ws wc wr : va_W} {Lc : List Nat} {mc ms : Nat} {post : Int32 → S → Prop} {a : Array Value} {st0 : List Value} (hA : ∀ q, s.heap.size ≤ q → A q) (hE : EW D cl A ws s.heap H locs) (isC isR : List Nat) (hC : isC.map (fun i => ws[i]?) = wc.map some) (hR : isR.map (fun i => ws[i]?) = wr.map some) (hn : va_nd isR = true) (hdis : ∀ i ∈ isR, i ∉ isC) (hLc : wc.map Prod.fst = Lc)
    (hr : va_Run p l e R s m args below meth c H locs cells slots mc ms (F0 m pc ls st0) rest (QEi D cl Lc H.size post wf a) (AE Lc H.size))
    (kk : ∀ (r : Int32) (u : S) (H1 : Heap) (locs1 : List Loc), post r u → EW D cl A (wr ++ wf u) s.heap H1 locs1 → W p l e R s m args below meth c H1 locs1 (cells + mc) (slots + ms) Q (F0 m (pc + 3) ls (.int r :: rest))) : W p l e R s m args below meth c H locs cells slots Q (F0 m pc ls st0) := by
  subst hLc
  have hF := va_free (wc := wc) hE.2.1 hE.2.2 hA isC hC
  have hF' : ∀ q, AE (wc.map Prod.fst) H.size q → A q := fun q h => hF q (AE_va.mp h)
  refine va_calli hr hE.2.2 (fun q _ h => hF' q h) hF' (fun r u t H1 locs1 ht hvm hw hB hz1 hk1 hS => ?_)
  have hj := va_join (wr := wr) (w1 := wf u) hE.1 hE.2.1 isC isR hC hR hn hdis (fun q h1 h2 => hk1 q h1 (fun h => h2 (AE_va.mp h))) hF (by rw [← ht]; exact hB.1) ⟨hB.2.1, fun k q h => AE_va.mp (hB.2.2 k q h)⟩
  exact kk r u H1 locs1 hw ⟨hj.1, hj.2, hS⟩
theorem E_cwI {index maxL n mc ms : Nat} {y : MethodName} {bytes : ByteArray} {rm : Room} (hW : ∀ w ∈ Wx, w.before args s = true) (hG : GoodIn Wx Wx) (hm : ∀ w ∈ (([.methodLink own index y, .instanceMethod y, .initialized y.cls] : List Cond) ++ [Cond.code y bytes maxL none]), w ∈ Wx) (hrc : rm.cells = mc) (hrs : rm.slots = ms) (hy1 : y.name = "<init>")
    (hd : y.cls ≠ "java/lang/invoke/MethodHandle" ∧ y.cls ≠ "java/lang/invoke/VarHandle" ∧ (parseMethodDescriptor y.desc).map (fun d => d.parameters.length) = some n) (hR : rm.frames + 1 ≤ R.frames ∧ 8 + (maxL + 11) + rm.locals ≤ R.locals) :
    CallB R s args own index y bytes maxL none (Cond.code y bytes maxL none :: Wx) rm mc ms n ∧ y.name = "<init>" ∧ (Cond.instanceMethod y).before args s = true := by
  have hb : ∀ w ∈ (([.methodLink own index y, .instanceMethod y, .initialized y.cls] : List Cond) ++ [Cond.code y bytes maxL none]), w.before args s = true := fun w h => hW w (hm w h)
  refine cwI n hW (fun w hw => hG w ?_) rfl hrc hrs (hb _ (by simp)) (hb _ (by simp)) (hb _ (by simp)) hy1 hd hR
  rcases List.mem_cons.mp hw with rfl | h
  · exact hm _ (List.mem_append_right _ List.mem_cons_self)
  · exact h
theorem z_newi {ws : va_W} (hx : p.tables.exec = Jvm.exec) (hb : c.code = cc) (harr : (Cond.arrayClass .int).before args s = true) (hK : KN D cl (tyE cI cZ cQ) s) (hA : ∀ q, s.heap.size ≤ q → A q) (hE : EW D cl A ws s.heap H locs) {N : Nat} (hN : N < 100000) (hcells : cells + 1 ≤ R.cells) (hslots : slots + N ≤ R.slots) (hdg : decode cc pc = .ok (.newarray .int, 2))
    (kk : ∀ (q : Nat) (H1 : Heap), EW D cl A (ws ++ [(q, .inl (cI, N, .inl (zA (fun _ => 0))))]) s.heap H1 locs → W p l e R s m args below meth c H1 locs (cells + 1) (slots + N) Q (F0 m (pc + 2) ls (.ref q :: rest))) : W p l e R s m args below meth c H locs cells slots Q (F0 m pc ls (.int (zI (N : Int)) :: rest)) := by
  refine va_newa (atype := .int) (ty := .int) hx hb harr rfl hK.1 hE.1 hE.2.1 hE.2.2 hA (N' := N) (a0 := (N, .inl (zA (fun _ => 0)))) (fun cA => rfl) ?_ ?_ ?_ hcells hslots hdg (fun q cA H1 hK1 h1 h2 h3 => ?_)
  · intro h
    have := (zI_lt (a := (N : Int)) (b := 0) (by omega) (by omega)).mp h
    omega
  · rw [zI_clamp (by omega) (by omega)]
    omega
  · show N * 4 ≤ 536870912
    omega
  · have e1 : s.vm.findClass ("[" ++ FieldType.int.toString) = some cA := (hK1.2 3 _ rfl).2
    have e2 : s.vm.findClass ("[" ++ FieldType.int.toString) = some cI := (hK.1.2 0 _ rfl).2
    have e3 : cA = cI := Option.some.inj (e1.symm.trans e2)
    subst e3
    exact kk q H1 ⟨h1, h2, h3⟩
theorem z_newz {ws : va_W} (hx : p.tables.exec = Jvm.exec) (hb : c.code = cc) (harr : (Cond.arrayClass .boolean).before args s = true) (hK : KN D cl (tyE cI cZ cQ) s) (hA : ∀ q, s.heap.size ≤ q → A q) (hE : EW D cl A ws s.heap H locs) {N : Nat} (hN : N < 100000) (hcells : cells + 1 ≤ R.cells) (hslots : slots + N ≤ R.slots) (hdg : decode cc pc = .ok (.newarray .boolean, 2))
    (kk : ∀ (q : Nat) (H1 : Heap), EW D cl A (ws ++ [(q, .inl (cZ, N, .inl (zA (fun _ => 0))))]) s.heap H1 locs → W p l e R s m args below meth c H1 locs (cells + 1) (slots + N) Q (F0 m (pc + 2) ls (.ref q :: rest))) : W p l e R s m args below meth c H locs cells slots Q (F0 m pc ls (.int (zI (N : Int)) :: rest)) := by
  refine va_newa (atype := .boolean) (ty := .boolean) hx hb harr rfl hK.1 hE.1 hE.2.1 hE.2.2 hA (N' := N) (a0 := (N, .inl (zA (fun _ => 0)))) (fun cA => rfl) ?_ ?_ ?_ hcells hslots hdg (fun q cA H1 hK1 h1 h2 h3 => ?_)
  · intro h
    have := (zI_lt (a := (N : Int)) (b := 0) (by omega) (by omega)).mp h
    omega
  · rw [zI_clamp (by omega) (by omega)]
    omega
  · show N * 1 ≤ 536870912
    omega
  · have e1 : s.vm.findClass ("[" ++ FieldType.boolean.toString) = some cA := (hK1.2 3 _ rfl).2
    have e2 : s.vm.findClass ("[" ++ FieldType.boolean.toString) = some cZ := (hK.1.2 1 _ rfl).2
    have e3 : cA = cZ := Option.some.inj (e1.symm.trans e2)
    subst e3
    exact kk q H1 ⟨h1, h2, h3⟩
theorem z_newq {ws : va_W} {index : Nat} (hx : p.tables.exec = Jvm.exec) (hb : c.code = cc) (hown : s.vm.findClass own = some m.cls) (hclink : (Cond.classLink own index R_Troubles).before args s = true) (hAO : va_AO R_Troubles s) (hK : KN D cl (tyE cI cZ cQ) s) (hA : ∀ q, s.heap.size ≤ q → A q) (hE : EW D cl A ws s.heap H locs) (hcells : cells + 1 ≤ R.cells) (hslots : slots + 5 ≤ R.slots) (hdg : decode cc pc = .ok (.anewarray index, 3))
    (kk : ∀ (q : Nat) (H1 : Heap), EW D cl A (ws ++ [(q, .inl (cQ, 5, .inr (.inr (.inr (.inr (fun _ => none))))))]) s.heap H1 locs → W p l e R s m args below meth c H1 locs (cells + 1) (slots + 5) Q (F0 m (pc + 3) ls (.ref q :: rest))) : W p l e R s m args below meth c H locs cells slots Q (F0 m pc ls (.int (zI 5) :: rest)) := by
  refine va_newq hx hb hown hclink hAO hK.1 hE.1 hE.2.1 hE.2.2 hA (N' := 5) (by decide) (by decide) (by decide) hcells hslots hdg (fun q cA H1 hK1 h1 h2 h3 => ?_)
  obtain ⟨_, _, _, _, _, e1⟩ := (hK1.2 3 _ rfl).2
  obtain ⟨_, _, _, _, _, e2⟩ := (hK.1.2 2 _ rfl).2
  have e3 : cA = cQ := Option.some.inj (e1.symm.trans e2)
  subst e3
  exact kk q H1 ⟨h1, h2, h3⟩
theorem P_fix {ws : va_W} {i a : Nat} {x x' : va_E} (hP : va_P D cl ws H) (hi : ws[i]? = some (a, x)) (h : va_at D cl (a, x) H → va_at D cl (a, x') H) : va_P D cl (ws.set i (a, x')) H := by
  intro k q hk
  by_cases e : i = k
  · subst e
    have hlt : i < ws.length := (List.getElem?_eq_some_iff.mp hi).1
    rw [List.getElem?_set_self hlt] at hk
    cases hk
    exact h (hP i _ hi)
  · rw [List.getElem?_set_ne e] at hk
    exact hP k q hk
theorem F_fixq {ws : va_W} {H0 : Heap} {i a : Nat} {f g : Nat → Option Nat} (hE : EW D cl A ws H0 H locs) (hi : ws[i]? = some (a, .inl (cQ, 5, .inr (.inr (.inr (.inr f)))))) (h : ∀ k, k < 5 → f k = g k) : EW D cl A (ws.set i (a, .inl (cQ, 5, .inr (.inr (.inr (.inr g)))))) H0 H locs := by
  refine ⟨P_fix hE.1 hi (fun hq => ?_), hE.2.1.set hi, hE.2.2⟩
  have e : vp_cell cQ (5, .inr (.inr (.inr (.inr f)))) = vp_cell cQ (5, .inr (.inr (.inr (.inr g)))) := by
    show arrV cQ 5 (fun j => va_rf (f j)) = arrV cQ 5 (fun j => va_rf (g j))
    unfold arrV
    congr 1
    congr 1
    funext j
    show va_rf (f j.val) = va_rf (g j.val)
    rw [h j.val j.isLt]
  have hq' : H[a]? = some (vp_cell cQ (5, .inr (.inr (.inr (.inr f))))) := hq
  rw [e] at hq'
  exact hq'
end FL

