/-! ===== methods and calls ===== -/
def mm_rm (n mc ms : Nat) : Room := { frames := n, cells := mc, slots := ms, locals := 40 * n }
theorem tb_gd {w : Cond} (h : w ∈ tb) : w ∈ tb ∧ ((w.onTables && w.keeps) = true ∨ ∃ ty, w = .arrayClass ty) := ⟨h, good_of_word (List.mem_filter.mp h).2⟩
theorem mm_cats (rho : Nat → Nat) : ∀ r : List mV, ((r.map (mE rho)).map fun v => v.category).sum = r.length
  | [] => rfl
  | v :: r => by
    have h := mm_cats rho r
    rw [List.map_cons, List.map_cons, List.sum_cons, h, mE_cat, List.length_cons]
    omega
section MMV
variable {S : Type}
def mm_Pc (Wd : S → Heap → Prop) (KK : State → Prop) (A : Nat → Prop) (vs : List Value) (s : S) : Array Value → State → Prop := va_Pc vs (fun U => KK U ∧ Wd s U.heap ∧ ∀ q : Nat, U.heap.size ≤ q → A q)
/-- a method does what P says, at level n of the room -/
def mm_So (l : Launch) (Wd : S → Heap → Prop) (KK : State → Prop) (rho : Nat → Nat) (A : Nat → Prop) (y : MethodName) (cc : ByteArray) (nL : Nat) (rt : Option FieldType) (n : Nat) (P : mP S) : Prop :=
  ∀ (as : List mV) (s : S) (mc ms : Nat) (ret : Option mV → S → Prop), P as s mc ms ret → Met l y (Cond.code y cc nL rt :: tb) (mm_rm n mc ms) (mm_Pc Wd KK A (as.map (mE rho)) s) (mm_Q Wd rho A ret) mc ms A
/-- a method by its code -/
def mm_Pm (rk : Nat) (cd : mC) (hk : mH S) (sp : mQ S) (nL : Nat) : mP S := fun as s mc ms ret => as.length ≤ nL ∧ mm_W rk cd hk sp ret (0, as.map some ++ List.replicate (nL - as.length) none, [], s, mc, ms)
def mm_KW (KK : State → Prop) (A : Nat → Prop) : Prop := (∀ u U : State, u.WarmedH U.vm → va_F A u U → KK u → KK U) ∧ ∀ u U : State, u.vm = U.vm → u.heap = U.heap → KK u → KK U
variable {l : Launch} {Wd : S → Heap → Prop} {KK : State → Prop} {rho : Nat → Nat} {A : Nat → Prop} {hk : mH S} {sp : mQ S} {cd : mC} {rk nL n : Nat} {y : MethodName} {cc : ByteArray} {rt : Option FieldType}
theorem mm_sound (hy : plainName y.cls = true) (hcd : ∀ pc ins len, mm_lk cd pc = some (ins, len) → decode cc pc = .ok (ins, len)) (hln : ∀ pc ins len, mm_lk cd pc = some (ins, len) → mm_okl ins len = true) (hac : (∀ x y, 24 ≤ x → 24 ≤ y → rho x = rho y → x = y) ∨ ∀ pc d o len, mm_lk cd pc ≠ some (.if_acmp d o, len)) (hrt : mm_rk rk rt)
    (HS : ∀ (p : Program) (e : Env) (R : Room) (s0 : State) (m : MethodId) (args : Array Value) (below : List Frame) (meth : Method) (c : Code) (Q : State → Prop), CallFix p m c cc nL s0 args tb y.cls → meth.name = y.name → KK s0 → (∀ q : Nat, s0.heap.size ≤ q → A q) → mm_HS p l e R s0 m args below meth c cc Wd rho A hk Q)
    (CS : ∀ (p : Program) (e : Env) (mc ms : Nat) (s0 : State) (m : MethodId) (args : Array Value) (below : List Frame) (meth : Method) (c : Code), CallFix p m c cc nL s0 args tb y.cls → KK s0 → (∀ q : Nat, s0.heap.size ≤ q → A q) → ∀ q ∈ sp, mm_CS p l e (mm_rm n mc ms) s0 m args below meth c cc nL Wd rho A q) :
    mm_So l Wd KK rho A y cc nL rt n (mm_Pm rk cd hk sp nL) := by
  intro as s mc ms ret hP
  obtain ⟨hl, hw⟩ := hP
  refine Met.ofW (cc := cc) (maxL := nL) (ret := rt) hy rfl ?_
  intro p e s0 m args below meth c s₁ B hml hv
  obtain ⟨rfl, hK, hW, hA⟩ := hv
  have hts0 := atoms_spec (ws := Cond.code y cc nL rt :: tb) B.pre
  have F : CallFix p m c cc nL s0 (as.map (mE rho)).toArray tb y.cls := ⟨B.exec, B.bytes, hml, findClass_of_methodNamed B.named, fun w h => hts0 w (List.mem_cons_of_mem _ h)⟩
  have hr : mm_rk rk meth.sig.returnType := by rw [B.returns]; exact hrt
  have key := hw _ (fun z hz => mm_step (nL := nL) (R := mm_rm n mc ms) (below := below) F.1 F.2.1 hcd hln hac B.notSynchronized hr (HS p e (mm_rm n mc ms) s0 m _ below meth c _ F (name_of_methodNamed B.named B.method).1 hK hA) (CS p e mc ms s0 m _ below meth c F hK hA) z hz)
  rw [lg_entry_eq]
  exact key s0.heap [] 0 0 _ hW va_S.rf (mm_L_entry rho as hl) (by simp; omega) (Nat.le_of_eq (Nat.zero_add _)) (Nat.le_of_eq (Nat.zero_add _))
variable {p : Program} {e : Env} {mc ms : Nat} {s0 : State} {m : MethodId} {args : Array Value} {below : List Frame} {meth : Method} {c : Code} {own C : String} {i na kd n' nLy : Nat} {cy : ByteArray} {rty : Option FieldType} {P : mP S}
theorem mm_blind (hKW : mm_KW KK A) {vs : List Value} {s : S} : FrameBlind (mm_Pc Wd KK A vs s) := fun a U g mk q => ⟨q.1, hKW.2 U (U.calling g mk a) rfl rfl q.2.1, q.2.2.1, q.2.2.2⟩
/-- a virtual call of a method of ours -/
theorem mm_CSV (F : CallFix p m c cc nL s0 args tb own) (hK : KK s0) (hKW : mm_KW KK A) (hA : ∀ q : Nat, s0.heap.size ≤ q → A q) (So : mm_So l Wd KK rho A y cy nLy rty n' P) (hn : n' + 1 ≤ n) (hL : nLy ≤ 21) (w1 : Cond.methodLink own i y ∈ tb) (w2 : Cond.instanceMethod y ∈ tb) (w3 : Cond.selects C y y ∈ tb) (w4 : Cond.initialized C ∈ tb) (w5 : Cond.code y cy nLy rty ∈ tb)
    (hd : y.cls = C ∧ y.cls ≠ "java/lang/invoke/MethodHandle" ∧ y.cls ≠ "java/lang/invoke/VarHandle" ∧ (parseMethodDescriptor y.desc).map (fun d => d.parameters.length) = some na)
    (recv : ∀ (as : List mV) (s : S) (mc ms : Nat) (ret : Option mV → S → Prop), P as s mc ms ret → as.length = na + 1 → ∃ (b : Nat) (as' : List mV), as = .inr (some b) :: as' ∧ ∀ H : Heap, Wd s H → ∃ cellB : Cell, H[rho b]? = some cellB ∧ cellB.vm.isStatics = false ∧ s0.vm.findClass C = some cellB.cls) :
    mm_CS p l e (mm_rm n mc ms) s0 m args below meth c cc nL Wd rho A ((0, i), na + 1, kd, P) := by
  intro as s mc' ms' ret hP hlen H locs cells slots pc ls rest hdg hW hS hc hs hsz hrl
  obtain ⟨b, as', rfl, hrc⟩ := recv _ _ _ _ _ hP hlen
  have hG : GoodIn tb (wsV own i C y (Cond.code y cy nLy rty :: tb)) := by
    intro w hw
    unfold wsV at hw
    rcases List.mem_append.mp hw with h | h
    · simp only [List.mem_cons, List.not_mem_nil, or_false] at h
      rcases h with rfl | rfl | rfl | rfl
      · exact tb_gd w1
      · exact tb_gd w2
      · exact tb_gd w3
      · exact tb_gd w4
    · exact tb_goodIn w5 (fun _ h => h) w h
  have hRR : (mm_rm n' mc' ms').frames + 1 ≤ (mm_rm n mc ms).frames ∧ 8 + (nLy + 11) + (mm_rm n' mc' ms').locals ≤ (mm_rm n mc ms).locals := ⟨hn, by show 8 + (nLy + 11) + 40 * n' ≤ 40 * n; omega⟩
  have e1 : ((Sum.inr (some b) :: as').reverse.map (mE rho) ++ rest.map (mE rho)) = (as'.map (mE rho)).reverse ++ .ref (rho b) :: rest.map (mE rho) := by
    simp [mE]
  rw [e1]
  exact va_runV (As := as'.map (mE rho)) F (So _ _ _ _ _ hP) (cwV na F.2.2.2.2 hG rfl rfl rfl hd hRR) ⟨mm_blind hKW, hrc H hW, fun U hU hWm => ⟨rfl, hKW.1 s0 U hWm (hS.F hU) hK, by rw [hU]; exact hW, by rw [hU]; exact fun q h => hA q (Nat.le_trans hS.1 h)⟩⟩ rfl (by simpa using hlen) hsz rfl (lv_room (by rw [mm_cats]; exact hrl)) hdg ⟨hc, hs⟩
/-- a static call of a method of ours -/
theorem mm_CSS (F : CallFix p m c cc nL s0 args tb own) (hK : KK s0) (hKW : mm_KW KK A) (hA : ∀ q : Nat, s0.heap.size ≤ q → A q) (So : mm_So l Wd KK rho A y cy nLy rty n' P) (hn : n' + 1 ≤ n) (hL : nLy ≤ 21) (w1 : Cond.methodLink own i y ∈ tb) (w2 : Cond.static y ∈ tb) (w4 : Cond.initialized y.cls ∈ tb) (w5 : Cond.code y cy nLy rty ∈ tb)
    (hd : y.cls ≠ "java/lang/invoke/MethodHandle" ∧ y.cls ≠ "java/lang/invoke/VarHandle" ∧ (parseMethodDescriptor y.desc).map (fun d => d.parameters.length) = some na) :
    mm_CS p l e (mm_rm n mc ms) s0 m args below meth c cc nL Wd rho A ((1, i), na, kd, P) := by
  intro as s mc' ms' ret hP hlen H locs cells slots pc ls rest hdg hW hS hc hs hsz hrl
  have hG : GoodIn tb (va_wsS own i y (Cond.code y cy nLy rty :: tb)) := by
    intro w hw
    unfold va_wsS at hw
    rcases List.mem_append.mp hw with h | h
    · simp only [List.mem_cons, List.not_mem_nil, or_false] at h
      rcases h with rfl | rfl | rfl
      · exact tb_gd w1
      · exact tb_gd w2
      · exact tb_gd w4
    · exact tb_goodIn w5 (fun _ h => h) w h
  have hRR : (mm_rm n' mc' ms').frames + 1 ≤ (mm_rm n mc ms).frames ∧ 8 + (nLy + 11) + (mm_rm n' mc' ms').locals ≤ (mm_rm n mc ms).locals := ⟨hn, by show 8 + (nLy + 11) + 40 * n' ≤ 40 * n; omega⟩
  have e1 : (as.reverse.map (mE rho) ++ rest.map (mE rho)) = (as.map (mE rho)).reverse ++ rest.map (mE rho) := by
    rw [List.map_reverse]
  rw [e1]
  exact va_runS (As := as.map (mE rho)) F (So _ _ _ _ _ hP) (va_cwS na F.2.2.2.2 hG rfl rfl rfl hd hRR) ⟨mm_blind hKW, fun U hU hWm => ⟨rfl, hKW.1 s0 U hWm (hS.F hU) hK, by rw [hU]; exact hW, by rw [hU]; exact fun q h => hA q (Nat.le_trans hS.1 h)⟩⟩ rfl (by simpa using hlen) hsz rfl (lv_room (by rw [mm_cats]; exact hrl)) hdg ⟨hc, hs⟩
end MMV
