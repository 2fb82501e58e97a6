/-! our own kit: one shape of contract for every method, one row a call, one row a return -/
section XK
abbrev xT (cI cZ : ClassId) : List (ClassId × FieldType) := [(cI, .int), (cZ, .boolean)]
def xIsN : Cond → Bool
  | .fieldLinkNest .. | .methodLinkNest .. => true
  | _ => false
/-- the nest words hold -/
def xN (ns : List Cond) (U : State) : Prop := ∀ w ∈ ns, xIsN w = true ∧ va_Nw w U
theorem xN.warm {ns : List Cond} {s U : State} (hW : s.WarmedH U.vm) (h : xN ns s) : xN ns U := by
  intro w hw
  obtain ⟨h1, h2⟩ := h w hw
  refine ⟨h1, ?_⟩
  cases w <;> first | exact va_Nw.warmF hW h2 | exact va_Nw.warmM hW h2 | (simp [xIsN] at h1)
theorem xN.same {ns : List Cond} {s U : State} (he : s.vm = U.vm) (h : xN ns s) : xN ns U := by
  intro w hw
  obtain ⟨h1, h2⟩ := h w hw
  refine ⟨h1, va_Nw.same ?_ he h2⟩
  cases w <;> first | rfl | (simp [xIsN] at h1)
theorem xN.use {ns : List Cond} {s : State} {args : Array Value} (h : xN ns s) {w : Cond} (hw : w ∈ ns) : w.before args s = true := by
  obtain ⟨h1, h2⟩ := h w hw
  refine va_Nw.use ?_ h2
  cases w <;> first | rfl | (simp [xIsN] at h1)
theorem xN.nw {ns : List Cond} {s : State} (h : xN ns s) {w : Cond} (hw : w ∈ ns) : va_Nw w s := (h w hw).2
def xPre (ns : List Cond) (D : va_G) (cl : List vw_C) (cI cZ : ClassId) (wc : va_W) (sz : Nat) (U : State) : Prop := U.heap.size = sz ∧ va_P D cl wc U.heap ∧ va_K D cl (xT cI cZ) U ∧ va_D (fun _ => True) wc ∧ xN ns U
def xAt (D : va_G) (cl : List vw_C) (A : Nat → Prop) (w : va_W) (t : State) : Prop := va_P D cl w t.heap ∧ va_D A w
theorem xPre_blind {ns : List Cond} {D : va_G} {cl : List vw_C} {cI cZ : ClassId} {wc : va_W} {sz : Nat} {av : List Value} : FrameBlind (va_Pc av (xPre ns D cl cI cZ wc sz)) := fun a U g mk q => by
  obtain ⟨q0, q1, qP, qK, qD, qN⟩ := q
  exact ⟨q0, q1, qP, va_K.moved (u := U) (U := U.calling g mk a) (Vm.Alike.refl U.vm) qK, qD, xN.same (s := U) (U := U.calling g mk a) rfl qN⟩
theorem xB_n {x : Int32} (h : x = 0 ∨ x = 1) : narrow .boolean (.int x) = .int x := by
  rcases h with rfl | rfl <;> rfl
theorem xB_f {x : Int32} (h : x = 0 ∨ x = 1) : fits .boolean (.int x) = true := by
  rcases h with rfl | rfl <;> rfl
theorem xB_v {x : Int32} (h : x = 0 ∨ x = 1) : vp_nar .boolean x = x := by
  rcases h with rfl | rfl <;> rfl
abbrev xB (x : Int32) : Prop := x = 0 ∨ x = 1
theorem xSub {α : Type} {ws ws' : List α} {is : List Nat} (h : is.map (fun i => ws[i]?) = ws'.map some) : is.filterMap (fun i => ws[i]?) = ws' := by
  have h1 : (is.map (fun i => ws[i]?)).filterMap id = (ws'.map some).filterMap id := by rw [h]
  rw [List.filterMap_map, List.filterMap_map] at h1
  have h2 : List.filterMap (id ∘ some) ws' = ws' := by
    rw [show (id ∘ some : α → Option α) = some from rfl]
    exact List.filterMap_some
  rw [h2] at h1
  exact h1
def bnd {α β : Type} (x : α) (k : α → β) : β := k x
theorem bnd_eq {α β : Type} {x u : α} {k : α → β} (h : u = x) : bnd x k = k u := by subst h; rfl
def bnd2 {α β γ : Type} (x : α × β) (k : α → β → γ) : γ := k x.1 x.2
theorem bnd2_eq {α β γ : Type} {x : α × β} {a : α} {b : β} {k : α → β → γ} (h : (a, b) = x) : bnd2 x k = k a b := by subst h; rfl
def bnd3 {α β γ δ : Type} (x : α × β × γ) (k : α → β → γ → δ) : δ := k x.1 x.2.1 x.2.2
theorem bnd3_eq {α β γ δ : Type} {x : α × β × γ} {a : α} {b : β} {c : γ} {k : α → β → γ → δ} (h : (a, b, c) = x) : bnd3 x k = k a b c := by subst h; rfl
def bnd4 {α β γ δ ε : Type} (x : α × β × γ × δ) (k : α → β → γ → δ → ε) : ε := k x.1 x.2.1 x.2.2.1 x.2.2.2
theorem bnd4_eq {α β γ δ ε : Type} {x : α × β × γ × δ} {a : α} {b : β} {c : γ} {d : δ} {k : α → β → γ → δ → ε} (h : (a, b, c, d) = x) : bnd4 x k = k a b c d := by subst h; rfl
def bnd5 {α β γ δ ε ζ : Type} (x : α × β × γ × δ × ε) (k : α → β → γ → δ → ε → ζ) : ζ := k x.1 x.2.1 x.2.2.1 x.2.2.2.1 x.2.2.2.2
theorem bnd5_eq {α β γ δ ε ζ : Type} {x : α × β × γ × δ × ε} {a : α} {b : β} {c : γ} {d : δ} {e : ε} {k : α → β → γ → δ → ε → ζ} (h : (a, b, c, d, e) = x) : bnd5 x k = k a b c d e := by subst h; rfl
end XK
section XW
variable {p : Program} {l : Launch} {e : Env} {R : Room} {s : State} {m : MethodId} {args : Array Value} {below : List Frame} {meth : Method} {c : Code} {H : Heap} {locs : List Loc} {cells slots : Nat} {Q : State → Prop}
variable {cc : ByteArray} {pc : Nat} {ls : Array Slot} {rest st0 : List Value} {D : va_G} {cl : List vw_C} {A : Nat → Prop} {a : Nat} {tys : List (ClassId × FieldType)} {ws wc wr : va_W} {H0 : Heap} {cI cZ : ClassId} {ns : List Cond} {As : List Value} {C : String} {b : Nat} {aa : Array Value} {mc ms : Nat}
theorem xtop {x y : Int32} (h : x = y) (k : W p l e R s m args below meth c H locs cells slots Q (F0 m pc ls (.int y :: rest))) : W p l e R s m args below meth c H locs cells slots Q (F0 m pc ls (.int x :: rest)) := h ▸ k
theorem xPreS (hP : va_P D cl wc H) (hD : va_D A wc) (hK : va_K D cl (xT cI cZ) s) (hN : xN ns s) : PreS s H (va_Pc As (xPre ns D cl cI cZ wc H.size)) As :=
  ⟨xPre_blind, fun U hU hW => ⟨rfl, by rw [hU], by rw [hU]; exact hP, va_K.moved hW.alike hK, hD.weaken (fun _ _ _ _ => trivial), hN.warm hW⟩⟩
theorem xPreV (hP : va_P D cl wc H) (hD : va_D A wc) (hK : va_K D cl (xT cI cZ) s) (hN : xN ns s) {q : vw_C} {ci q0 : Nat} {fs : List Value} (hc : cl[ci]? = some q) (he : wc[q0]? = some (b, .inr (ci, fs))) (hC : q.1 = C) : PreV s H C b (va_Pc (.ref b :: As) (xPre ns D cl cI cZ wc H.size)) As :=
  ⟨xPre_blind, hC ▸ va_recv hK hP hc he, fun U hU hW => ⟨rfl, by rw [hU], by rw [hU]; exact hP, va_K.moved hW.alike hK, hD.weaken (fun _ _ _ _ => trivial), hN.warm hW⟩⟩
theorem xcall_i {S : Type} {post : Int32 → S → Prop} {Wf ws1 : S → va_W}
    (hr : va_Run p l e R s m args below meth c H locs cells slots mc ms (F0 m pc ls st0) rest (va_Qi post (fun u t => xAt D cl (va_A wc H.size) (Wf u) t) (va_A wc H.size) aa) (va_A wc H.size))
    (hP : va_P D cl ws H) (hD : va_D A ws) (hS : va_S A H0 H locs) (hA : ∀ q, H0.size ≤ q → A q)
    (isC isR isP : List Nat) (hC : isC.map (fun i => ws[i]?) = wc.map some) (hR : isR.map (fun i => ws[i]?) = wr.map some) (hn : va_nd isR = true) (hdis : ∀ i ∈ isR, i ∉ isC) (hnP : va_nd isP = true) (hp : ∀ u, isP.map (fun i => (wr ++ Wf u)[i]?) = (ws1 u).map some)
    (kk : ∀ (r : Int32) (u : S) (H1 : Heap) (locs1 : List Loc), post r u → va_P D cl (ws1 u) H1 → va_D A (ws1 u) → va_S A H0 H1 locs1 → W p l e R s m args below meth c H1 locs1 (cells + mc) (slots + ms) Q (F0 m (pc + 3) ls (.int r :: rest))) : W p l e R s m args below meth c H locs cells slots Q (F0 m pc ls st0) := by
  have hF := va_free hD hS hA isC hC
  refine va_calli hr hS (fun q _ h => hF q h) hF (fun r u t H1 locs1 ht hvm hpost hB hz hk hS1 => ?_)
  obtain ⟨hP1, hD1⟩ := hB
  rw [ht] at hP1
  obtain ⟨hP2, hD2⟩ := va_join hP hD isC isR hC hR hn hdis hk hF hP1 hD1
  exact kk r u H1 locs1 hpost (hP2.sub isP (xSub (hp u))) (hD2.sub isP hnP (hp u)) hS1
theorem xcall_v {S : Type} {post : S → Prop} {Wf ws1 : S → va_W}
    (hr : va_Run p l e R s m args below meth c H locs cells slots mc ms (F0 m pc ls st0) rest (va_Qv post (fun u t => xAt D cl (va_A wc H.size) (Wf u) t) (va_A wc H.size) aa) (va_A wc H.size))
    (hP : va_P D cl ws H) (hD : va_D A ws) (hS : va_S A H0 H locs) (hA : ∀ q, H0.size ≤ q → A q)
    (isC isR isP : List Nat) (hC : isC.map (fun i => ws[i]?) = wc.map some) (hR : isR.map (fun i => ws[i]?) = wr.map some) (hn : va_nd isR = true) (hdis : ∀ i ∈ isR, i ∉ isC) (hnP : va_nd isP = true) (hp : ∀ u, isP.map (fun i => (wr ++ Wf u)[i]?) = (ws1 u).map some)
    (kk : ∀ (u : S) (H1 : Heap) (locs1 : List Loc), post u → va_P D cl (ws1 u) H1 → va_D A (ws1 u) → va_S A H0 H1 locs1 → W p l e R s m args below meth c H1 locs1 (cells + mc) (slots + ms) Q (F0 m (pc + 3) ls rest)) : W p l e R s m args below meth c H locs cells slots Q (F0 m pc ls st0) := by
  have hF := va_free hD hS hA isC hC
  refine va_callv hr hS (fun q _ h => hF q h) hF (fun u t H1 locs1 ht hvm hpost hB hz hk hS1 => ?_)
  obtain ⟨hP1, hD1⟩ := hB
  rw [ht] at hP1
  obtain ⟨hP2, hD2⟩ := va_join hP hD isC isR hC hR hn hdis hk hF hP1 hD1
  exact kk u H1 locs1 hpost (hP2.sub isP (xSub (hp u))) (hD2.sub isP hnP (hp u)) hS1
theorem xIn {k n : Nat} {i : Int32} (hi : i = nI k) (hk : k < n) (hn : n < 2 ^ 31) : vp_in i n ∧ i.toNatClampNeg = k := by
  subst hi
  exact ⟨vp_in_nI hk hn, nI_clamp (by omega)⟩
theorem xiald (hexec : p.tables.exec = Jvm.exec) (hb : c.code = cc) (hK : va_K D cl tys s) (hP : va_P D cl ws H) (q0 t0 : Nat) {cA : ClassId} {n k : Nat} {f : Nat → Int32} (ha : ws[q0]? = some (a, .inl (cA, n, .inl f))) (ht : tys[t0]? = some (cA, .int)) {i : Int32} (hi : i = nI k) (hk : k < n) (hn : n < 2 ^ 31) (hdg : decode cc pc = .ok (.iaload, 1))
    (kk : W p l e R s m args below meth c H locs cells slots Q (F0 m (pc + 1) ls (.int (f k) :: rest))) : W p l e R s m args below meth c H locs cells slots Q (F0 m pc ls (.int i :: .ref a :: rest)) := by
  obtain ⟨h1, h2⟩ := xIn hi hk hn
  exact va_iald hexec hb hK hP q0 t0 ha ht h1 hdg (by rw [h2]; exact kk)
theorem xzald (hexec : p.tables.exec = Jvm.exec) (hb : c.code = cc) (hK : va_K D cl tys s) (hP : va_P D cl ws H) (q0 t0 : Nat) {cA : ClassId} {n k : Nat} {f : Nat → Int32} (ha : ws[q0]? = some (a, .inl (cA, n, .inl f))) (ht : tys[t0]? = some (cA, .boolean)) {i : Int32} (hi : i = nI k) (hk : k < n) (hn : n < 2 ^ 31) (hdg : decode cc pc = .ok (.baload, 1))
    (kk : W p l e R s m args below meth c H locs cells slots Q (F0 m (pc + 1) ls (.int (f k) :: rest))) : W p l e R s m args below meth c H locs cells slots Q (F0 m pc ls (.int i :: .ref a :: rest)) := by
  obtain ⟨h1, h2⟩ := xIn hi hk hn
  exact va_zald hexec hb hK hP q0 t0 ha ht h1 hdg (by rw [h2]; exact kk)
theorem xiast (hexec : p.tables.exec = Jvm.exec) (hb : c.code = cc) (hK : va_K D cl tys s) (hP : va_P D cl ws H) (hD : va_D A ws) (hS : va_S A H0 H locs) (q0 t0 : Nat) {cA : ClassId} {n k : Nat} {f : Nat → Int32} (ha : ws[q0]? = some (a, .inl (cA, n, .inl f))) (ht : tys[t0]? = some (cA, .int)) {i x : Int32} (hi : i = nI k) (hk : k < n) (hn : n < 2 ^ 31) (hdg : decode cc pc = .ok (.iastore, 1))
    (kk : ∀ (H1 : Heap) (locs1 : List Loc), va_P D cl (ws.set q0 (a, .inl (cA, n, .inl (upd f k x)))) H1 → va_D A (ws.set q0 (a, .inl (cA, n, .inl (upd f k x)))) → va_S A H0 H1 locs1 → W p l e R s m args below meth c H1 locs1 cells slots Q (F0 m (pc + 1) ls rest)) : W p l e R s m args below meth c H locs cells slots Q (F0 m pc ls (.int x :: .int i :: .ref a :: rest)) := by
  obtain ⟨h1, h2⟩ := xIn hi hk hn
  exact va_iast hexec hb hK hP hD hS q0 t0 ha ht h1 hdg (by rw [h2]; exact kk)
theorem xzast (hexec : p.tables.exec = Jvm.exec) (hb : c.code = cc) (hK : va_K D cl tys s) (hP : va_P D cl ws H) (hD : va_D A ws) (hS : va_S A H0 H locs) (q0 t0 : Nat) {cA : ClassId} {n k : Nat} {f : Nat → Int32} (ha : ws[q0]? = some (a, .inl (cA, n, .inl f))) (ht : tys[t0]? = some (cA, .boolean)) {i x : Int32} (hi : i = nI k) (hk : k < n) (hn : n < 2 ^ 31) (hx : xB x) (hdg : decode cc pc = .ok (.bastore, 1))
    (kk : ∀ (H1 : Heap) (locs1 : List Loc), va_P D cl (ws.set q0 (a, .inl (cA, n, .inl (upd f k x)))) H1 → va_D A (ws.set q0 (a, .inl (cA, n, .inl (upd f k x)))) → va_S A H0 H1 locs1 → W p l e R s m args below meth c H1 locs1 cells slots Q (F0 m (pc + 1) ls rest)) : W p l e R s m args below meth c H locs cells slots Q (F0 m pc ls (.int x :: .int i :: .ref a :: rest)) := by
  obtain ⟨h1, h2⟩ := xIn hi hk hn
  exact va_zast hexec hb hK hP hD hS q0 t0 ha ht h1 hdg (by rw [h2, xB_v hx]; exact kk)
theorem xret_v {S : Type} {post : S → Prop} {Wf : S → va_W} (hx : p.tables.exec = Jvm.exec) (hb : c.code = cc) (hr : meth.sig.returnType = none) (hlk : meth.locks = false) (u : S) (hpost : post u) (hP : va_P D cl (Wf u) H) (hD : va_D A (Wf u)) (hS : va_S A s.heap H locs) (hdg : decode cc pc = .ok (.return_, 1)) : W p l e R s m args below meth c H locs cells slots (MQ below (va_Qv post (fun u t => xAt D cl A (Wf u) t) A) args s cells slots A) (F0 m pc ls []) :=
  W.vret hx hb hr (fun t ht hW => ⟨⟨u, rfl, hpost, by rw [ht]; exact hP, hD⟩, hS.F ht⟩) hS.2.2 hdg hlk
theorem xret_i {S : Type} {post : Int32 → S → Prop} {Wf : S → va_W} (hx : p.tables.exec = Jvm.exec) (hb : c.code = cc) (hr : meth.sig.returnType = some .int) (hlk : meth.locks = false) (v : Int32) (u : S) (hpost : post v u) (hP : va_P D cl (Wf u) H) (hD : va_D A (Wf u)) (hS : va_S A s.heap H locs) (hdg : decode cc pc = .ok (.ireturn, 1)) : W p l e R s m args below meth c H locs cells slots (MQ below (va_Qi post (fun u t => xAt D cl A (Wf u) t) A) args s cells slots A) (F0 m pc ls [.int v]) :=
  W.iret hx hb hr (fun t ht hW => ⟨⟨v, u, rfl, hpost, by rw [ht]; exact hP, hD⟩, hS.F ht⟩) hS.2.2 hdg hlk
theorem xret_z {S : Type} {post : Int32 → S → Prop} {Wf : S → va_W} (hx : p.tables.exec = Jvm.exec) (hb : c.code = cc) (hr : meth.sig.returnType = some .boolean) (hlk : meth.locks = false) (v : Int32) (u : S) (hpost : post v u) (hv : xB v) (hP : va_P D cl (Wf u) H) (hD : va_D A (Wf u)) (hS : va_S A s.heap H locs) (hdg : decode cc pc = .ok (.ireturn, 1)) : W p l e R s m args below meth c H locs cells slots (MQ below (va_Qi post (fun u t => xAt D cl A (Wf u) t) A) args s cells slots A) (F0 m pc ls [.int v]) :=
  W.zret hx hb hr (xB_n hv) (fun t ht hW => ⟨⟨v, u, rfl, hpost, by rw [ht]; exact hP, hD⟩, hS.F ht⟩) hS.2.2 hdg hlk
/-! a method's start: one shape for all -/
theorem xBody_v {y : MethodName} {Ws ws' : List Cond} {rm : Room} {maxL : Nat} {av : List Value} {sz : Nat} {S : Type} {post : S → Prop} {Wf : S → va_W}
    (hy : plainName y.cls = true) (hw : Ws = Cond.code y cc maxL (none) :: ws') (hlen : (lg_sl av).length ≤ maxL)
    (body : ∀ (p : Program) (e : Env) (s : State) (m : MethodId) (args : Array Value) (below : List Frame) (meth : Method) (c : Code) (A : Nat → Prop) (H : Heap) (ls : Array Slot) (Q : State → Prop), p.tables.exec = Jvm.exec → c.code = cc → c.maxLocals = maxL → meth.name = y.name → (∀ w ∈ Ws, w.before args s = true) → s.vm.findClass y.cls = some m.cls → va_P D cl wc H → va_D A wc → va_K D cl (xT cI cZ) s → xN ns s → va_S A s.heap H [] → (∀ q : Nat, s.heap.size ≤ q → A q) → lv_has ls maxL (lv_args 0 av) →
      (∀ (u : S), post u → ∀ (H : Heap) (locs : List Loc) (pc : Nat) (ls : Array Slot), va_P D cl (Wf u) H → va_D A (Wf u) → va_S A s.heap H locs → decode cc pc = .ok (.return_, 1) → W p l e rm s m args below meth c H locs mc ms Q (F0 m pc ls [])) →
      W p l e rm s m args below meth c H [] 0 0 Q (F0 m 0 ls [])) :
    Met l y Ws rm (va_Pc av (xPre ns D cl cI cZ wc sz)) (va_Qv post (fun u t => xAt D cl (va_A wc sz) (Wf u) t) (va_A wc sz)) mc ms (va_A wc sz) := by
  refine Met.ofW (cc := cc) (maxL := maxL) (ret := none) hy hw ?_
  intro p e s m args below meth c s₁ B hml hv
  obtain ⟨rfl, hsz, hP, hK, hD0, hN⟩ := hv
  have hx := B.exec
  have hb := B.bytes
  have hr := B.returns
  have hts := atoms_spec (ws := Ws) B.pre
  have hown := findClass_of_methodNamed B.named
  have hlk := B.notSynchronized
  subst hsz
  have hl := lv_entry av (n := maxL) hlen
  rw [lg_entry_eq]
  exact body p e s m _ below meth c _ _ _ _ hx hb hml (name_of_methodNamed B.named B.method).1 hts hown hP hD0.self hK hN va_S.rf (fun q h => Or.inr h) hl (fun u hp H locs pc ls h1 h2 h3 hd => xret_v hx hb hr hlk u hp h1 h2 h3 hd)
theorem xBody_i {y : MethodName} {Ws ws' : List Cond} {rm : Room} {maxL : Nat} {av : List Value} {sz : Nat} {S : Type} {post : Int32 → S → Prop} {Wf : S → va_W}
    (hy : plainName y.cls = true) (hw : Ws = Cond.code y cc maxL (some .int) :: ws') (hlen : (lg_sl av).length ≤ maxL)
    (body : ∀ (p : Program) (e : Env) (s : State) (m : MethodId) (args : Array Value) (below : List Frame) (meth : Method) (c : Code) (A : Nat → Prop) (H : Heap) (ls : Array Slot) (Q : State → Prop), p.tables.exec = Jvm.exec → c.code = cc → c.maxLocals = maxL → meth.name = y.name → (∀ w ∈ Ws, w.before args s = true) → s.vm.findClass y.cls = some m.cls → va_P D cl wc H → va_D A wc → va_K D cl (xT cI cZ) s → xN ns s → va_S A s.heap H [] → (∀ q : Nat, s.heap.size ≤ q → A q) → lv_has ls maxL (lv_args 0 av) →
      (∀ (v : Int32) (u : S), post v u → ∀ (H : Heap) (locs : List Loc) (pc : Nat) (ls : Array Slot), va_P D cl (Wf u) H → va_D A (Wf u) → va_S A s.heap H locs → decode cc pc = .ok (.ireturn, 1) → W p l e rm s m args below meth c H locs mc ms Q (F0 m pc ls [.int v])) →
      W p l e rm s m args below meth c H [] 0 0 Q (F0 m 0 ls [])) :
    Met l y Ws rm (va_Pc av (xPre ns D cl cI cZ wc sz)) (va_Qi post (fun u t => xAt D cl (va_A wc sz) (Wf u) t) (va_A wc sz)) mc ms (va_A wc sz) := by
  refine Met.ofW (cc := cc) (maxL := maxL) (ret := some .int) hy hw ?_
  intro p e s m args below meth c s₁ B hml hv
  obtain ⟨rfl, hsz, hP, hK, hD0, hN⟩ := hv
  have hx := B.exec
  have hb := B.bytes
  have hr := B.returns
  have hts := atoms_spec (ws := Ws) B.pre
  have hown := findClass_of_methodNamed B.named
  have hlk := B.notSynchronized
  subst hsz
  have hl := lv_entry av (n := maxL) hlen
  rw [lg_entry_eq]
  exact body p e s m _ below meth c _ _ _ _ hx hb hml (name_of_methodNamed B.named B.method).1 hts hown hP hD0.self hK hN va_S.rf (fun q h => Or.inr h) hl (fun v u hp H locs pc ls h1 h2 h3 hd => xret_i hx hb hr hlk v u hp h1 h2 h3 hd)
theorem xBody_z {y : MethodName} {Ws ws' : List Cond} {rm : Room} {maxL : Nat} {av : List Value} {sz : Nat} {S : Type} {post : Int32 → S → Prop} {Wf : S → va_W}
    (hy : plainName y.cls = true) (hw : Ws = Cond.code y cc maxL (some .boolean) :: ws') (hlen : (lg_sl av).length ≤ maxL)
    (body : ∀ (p : Program) (e : Env) (s : State) (m : MethodId) (args : Array Value) (below : List Frame) (meth : Method) (c : Code) (A : Nat → Prop) (H : Heap) (ls : Array Slot) (Q : State → Prop), p.tables.exec = Jvm.exec → c.code = cc → c.maxLocals = maxL → meth.name = y.name → (∀ w ∈ Ws, w.before args s = true) → s.vm.findClass y.cls = some m.cls → va_P D cl wc H → va_D A wc → va_K D cl (xT cI cZ) s → xN ns s → va_S A s.heap H [] → (∀ q : Nat, s.heap.size ≤ q → A q) → lv_has ls maxL (lv_args 0 av) →
      (∀ (v : Int32) (u : S), post v u → ∀ (H : Heap) (locs : List Loc) (pc : Nat) (ls : Array Slot), xB v → va_P D cl (Wf u) H → va_D A (Wf u) → va_S A s.heap H locs → decode cc pc = .ok (.ireturn, 1) → W p l e rm s m args below meth c H locs mc ms Q (F0 m pc ls [.int v])) →
      W p l e rm s m args below meth c H [] 0 0 Q (F0 m 0 ls [])) :
    Met l y Ws rm (va_Pc av (xPre ns D cl cI cZ wc sz)) (va_Qi post (fun u t => xAt D cl (va_A wc sz) (Wf u) t) (va_A wc sz)) mc ms (va_A wc sz) := by
  refine Met.ofW (cc := cc) (maxL := maxL) (ret := some .boolean) hy hw ?_
  intro p e s m args below meth c s₁ B hml hv
  obtain ⟨rfl, hsz, hP, hK, hD0, hN⟩ := hv
  have hx := B.exec
  have hb := B.bytes
  have hr := B.returns
  have hts := atoms_spec (ws := Ws) B.pre
  have hown := findClass_of_methodNamed B.named
  have hlk := B.notSynchronized
  subst hsz
  have hl := lv_entry av (n := maxL) hlen
  rw [lg_entry_eq]
  exact body p e s m _ below meth c _ _ _ _ hx hb hml (name_of_methodNamed B.named B.method).1 hts hown hP hD0.self hK hN va_S.rf (fun q h => Or.inr h) hl (fun v u hp H locs pc ls hz h1 h2 h3 hd => xret_z hx hb hr hlk v u hp hz h1 h2 h3 hd)
end XW
section XN
variable {p : Program} {l : Launch} {e : Env} {R : Room} {s : State} {m : MethodId} {args : Array Value} {below : List Frame} {meth : Method} {c : Code} {H : Heap} {locs : List Loc} {cells slots : Nat} {Q : State → Prop}
variable {cc : ByteArray} {pc : Nat} {ls : Array Slot} {rest : List Value} {D : va_G} {cl : List vw_C} {A : Nat → Prop} {ws : va_W} {H0 : Heap} {cI cZ : ClassId}
theorem xK_i {cA : ClassId} (h : va_K D cl (xT cI cZ ++ [(cA, .int)]) s) : cA = cI := by
  have h1 : s.vm.findClass ("[" ++ FieldType.int.toString) = some cI := (h.2 0 (cI, .int) rfl).2
  have h2 : s.vm.findClass ("[" ++ FieldType.int.toString) = some cA := (h.2 2 (cA, .int) rfl).2
  exact Option.some.inj (h2.symm.trans h1)
theorem xK_z {cA : ClassId} (h : va_K D cl (xT cI cZ ++ [(cA, .boolean)]) s) : cA = cZ := by
  have h1 : s.vm.findClass ("[" ++ FieldType.boolean.toString) = some cZ := (h.2 1 (cZ, .boolean) rfl).2
  have h2 : s.vm.findClass ("[" ++ FieldType.boolean.toString) = some cA := (h.2 2 (cA, .boolean) rfl).2
  exact Option.some.inj (h2.symm.trans h1)
theorem xnewa (hexec : p.tables.exec = Jvm.exec) (hb : c.code = cc) (harr : (Cond.arrayClass .int).before args s = true) (hK : va_K D cl (xT cI cZ) s) (hP : va_P D cl ws H) (hD : va_D A ws) (hS : va_S A H0 H locs) (hA : ∀ q, H0.size ≤ q → A q)
    {n : Int32} {N : Nat} (hn : n = nI N) (hN : N < 1048576) (hcells : cells + 1 ≤ R.cells) (hslots : slots + N ≤ R.slots) (hdg : decode cc pc = .ok (.newarray .int, 2))
    (kk : ∀ (q : Nat) (H1 : Heap), va_P D cl (ws ++ [(q, .inl (cI, N, .inl (fun _ => 0)))]) H1 → va_D A (ws ++ [(q, .inl (cI, N, .inl (fun _ => 0)))]) → va_S A H0 H1 locs → W p l e R s m args below meth c H1 locs (cells + 1) (slots + N) Q (F0 m (pc + 2) ls (.ref q :: rest))) : W p l e R s m args below meth c H locs cells slots Q (F0 m pc ls (.int n :: rest)) := by
  subst hn
  refine va_newa (atype := .int) (ty := .int) (a0 := (N, .inl (fun _ => 0))) (N' := N) hexec hb harr rfl hK hP hD hS hA (fun _ => rfl) (nI_pos (by omega)) (nI_clamp (by omega)) (by simp [componentBytes]; omega) hcells hslots hdg (fun q cA H1 hK1 hP1 hD1 hS1 => ?_)
  have e := xK_i hK1
  subst e
  exact kk q H1 hP1 hD1 hS1
theorem xnewaz (hexec : p.tables.exec = Jvm.exec) (hb : c.code = cc) (harr : (Cond.arrayClass .boolean).before args s = true) (hK : va_K D cl (xT cI cZ) s) (hP : va_P D cl ws H) (hD : va_D A ws) (hS : va_S A H0 H locs) (hA : ∀ q, H0.size ≤ q → A q)
    {n : Int32} {N : Nat} (hn : n = nI N) (hN : N < 1048576) (hcells : cells + 1 ≤ R.cells) (hslots : slots + N ≤ R.slots) (hdg : decode cc pc = .ok (.newarray .boolean, 2))
    (kk : ∀ (q : Nat) (H1 : Heap), va_P D cl (ws ++ [(q, .inl (cZ, N, .inl (fun _ => 0)))]) H1 → va_D A (ws ++ [(q, .inl (cZ, N, .inl (fun _ => 0)))]) → va_S A H0 H1 locs → W p l e R s m args below meth c H1 locs (cells + 1) (slots + N) Q (F0 m (pc + 2) ls (.ref q :: rest))) : W p l e R s m args below meth c H locs cells slots Q (F0 m pc ls (.int n :: rest)) := by
  subst hn
  refine va_newa (atype := .boolean) (ty := .boolean) (a0 := (N, .inl (fun _ => 0))) (N' := N) hexec hb harr rfl hK hP hD hS hA (fun _ => rfl) (nI_pos (by omega)) (nI_clamp (by omega)) (by simp [componentBytes]; omega) hcells hslots hdg (fun q cA H1 hK1 hP1 hD1 hS1 => ?_)
  have e := xK_z hK1
  subst e
  exact kk q H1 hP1 hD1 hS1
end XN
