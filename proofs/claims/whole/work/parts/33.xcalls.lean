/-! ===== further calls: nest mates, constructors, Object.<init>, Math ===== -/
section MMX
variable {S : Type} {l : Launch} {Wd : S → Heap → Prop} {KK : State → Prop} {rho : Nat → Nat} {A : Nat → Prop} {nL n : Nat} {y : MethodName} {cc : ByteArray}
variable {p : Program} {e : Env} {mc ms : Nat} {s0 : State} {m : MethodId} {args : Array Value} {below : List Frame} {meth : Method} {c : Code} {own C host : String} {i na kd n' nLy : Nat} {cy : ByteArray} {rty : Option FieldType} {P : mP S}
/-- a virtual call of a nest mate's private method -/
theorem mm_CSVN (F : CallFix p m c cc nL s0 args tb own) (hK : KK s0) (hKW : mm_KW KK A) (hA : ∀ q : Nat, s0.heap.size ≤ q → A q) (So : mm_So l Wd KK rho A y cy nLy rty n' P) (hn : n' + 1 ≤ n) (hL : nLy ≤ 21) (w1 : va_Nw (.methodLinkNest own i y host) s0) (w2 : Cond.instanceMethod y ∈ tb) (w3 : Cond.selects C y y ∈ tb) (w4 : Cond.initialized y.cls ∈ tb) (w5 : Cond.code y cy nLy rty ∈ tb)
    (hd : y.cls ≠ "java/lang/invoke/MethodHandle" ∧ y.cls ≠ "java/lang/invoke/VarHandle" ∧ (parseMethodDescriptor y.desc).map (fun d => d.parameters.length) = some na)
    (recv : ∀ (as : List mV) (s : S) (mc ms : Nat) (ret : Option mV → S → Prop), P as s mc ms ret → as.length = na + 1 → ∃ (b : Nat) (as' : List mV), as = .inr (some b) :: as' ∧ ∀ H : Heap, Wd s H → ∃ cellB : Cell, H[rho b]? = some cellB ∧ cellB.vm.isStatics = false ∧ s0.vm.findClass C = some cellB.cls) :
    mm_CS p l e (mm_rm n mc ms) s0 m args below meth c cc nL Wd rho A ((0, i), na + 1, kd, P) := by
  intro as s mc' ms' ret hP hlen H locs cells slots pc ls rest hdg hW hS hc hs hsz hrl
  obtain ⟨b, as', rfl, hrc⟩ := recv _ _ _ _ _ hP hlen
  have hRR : (mm_rm n' mc' ms').frames + 1 ≤ (mm_rm n mc ms).frames ∧ 8 + (nLy + 11) + (mm_rm n' mc' ms').locals ≤ (mm_rm n mc ms).locals := ⟨hn, by show 8 + (nLy + 11) + 40 * n' ≤ 40 * n; omega⟩
  have e1 : ((Sum.inr (some b) :: as').reverse.map (mE rho) ++ rest.map (mE rho)) = (as'.map (mE rho)).reverse ++ .ref (rho b) :: rest.map (mE rho) := by
    simp [mE]
  rw [e1]
  exact va_runVN (As := as'.map (mE rho)) F (So _ _ _ _ _ hP) ⟨va_cnB na F.2.2.2.2 (tb_goodIn w5 (fun _ h => h)) rfl rfl rfl w1 (F.2.2.2.2 _ w4) hd hRR, F.2.2.2.2 _ w2, F.2.2.2.2 _ w3⟩ ⟨mm_blind hKW, hrc H hW, fun U hU hWm => ⟨rfl, hKW.1 s0 U hWm (hS.F hU) hK, by rw [hU]; exact hW, by rw [hU]; exact fun q h => hA q (Nat.le_trans hS.1 h)⟩⟩ rfl (by simpa using hlen) hsz rfl (lv_room (by rw [mm_cats]; exact hrl)) hdg ⟨hc, hs⟩
/-- a constructor's call: the receiver is a reference -/
theorem mm_CSI (F : CallFix p m c cc nL s0 args tb own) (hK : KK s0) (hKW : mm_KW KK A) (hA : ∀ q : Nat, s0.heap.size ≤ q → A q) (So : mm_So l Wd KK rho A y cy nLy none n' P) (hn : n' + 1 ≤ n) (hL : nLy ≤ 21) (w1 : Cond.methodLink own i y ∈ tb) (w2 : Cond.instanceMethod y ∈ tb) (w4 : Cond.initialized y.cls ∈ tb) (w5 : Cond.code y cy nLy none ∈ tb) (hy1 : y.name = "<init>")
    (hd : y.cls ≠ "java/lang/invoke/MethodHandle" ∧ y.cls ≠ "java/lang/invoke/VarHandle" ∧ (parseMethodDescriptor y.desc).map (fun d => d.parameters.length) = some na)
    (recv : ∀ (as : List mV) (s : S) (mc ms : Nat) (ret : Option mV → S → Prop), P as s mc ms ret → as.length = na + 1 → ∃ (b : Nat) (as' : List mV), as = .inr (some b) :: as') :
    mm_CS p l e (mm_rm n mc ms) s0 m args below meth c cc nL Wd rho A ((2, i), na + 1, kd, P) := by
  intro as s mc' ms' ret hP hlen H locs cells slots pc ls rest hdg hW hS hc hs hsz hrl
  obtain ⟨b, as', rfl⟩ := recv _ _ _ _ _ hP hlen
  have hRR : (mm_rm n' mc' ms').frames + 1 ≤ (mm_rm n mc ms).frames ∧ 8 + (nLy + 11) + (mm_rm n' mc' ms').locals ≤ (mm_rm n mc ms).locals := ⟨hn, by show 8 + (nLy + 11) + 40 * n' ≤ 40 * n; omega⟩
  have e1 : ((Sum.inr (some b) :: as').reverse.map (mE rho) ++ rest.map (mE rho)) = (as'.map (mE rho)).reverse ++ .ref (rho b) :: rest.map (mE rho) := by
    simp [mE]
  rw [e1]
  exact va_runI (As := as'.map (mE rho)) F (So _ _ _ _ _ hP) (cwI na F.2.2.2.2 (tb_goodIn w5 (fun _ h => h)) rfl rfl rfl (F.2.2.2.2 _ w4) (F.2.2.2.2 _ w1) (F.2.2.2.2 _ w2) hy1 hd hRR) ⟨mm_blind hKW, fun U hU hWm => ⟨rfl, hKW.1 s0 U hWm (hS.F hU) hK, by rw [hU]; exact hW, by rw [hU]; exact fun q h => hA q (Nat.le_trans hS.1 h)⟩⟩ rfl (by simpa using hlen) hsz rfl (lv_room (by rw [mm_cats]; exact hrl)) hdg ⟨hc, hs⟩
/-- a nest mate's private constructor -/
theorem mm_CSIN (F : CallFix p m c cc nL s0 args tb own) (hK : KK s0) (hKW : mm_KW KK A) (hA : ∀ q : Nat, s0.heap.size ≤ q → A q) (So : mm_So l Wd KK rho A y cy nLy none n' P) (hn : n' + 1 ≤ n) (hL : nLy ≤ 21) (w1 : va_Nw (.methodLinkNest own i y host) s0) (w2 : Cond.instanceMethod y ∈ tb) (w4 : Cond.initialized y.cls ∈ tb) (w5 : Cond.code y cy nLy none ∈ tb) (hy1 : y.name = "<init>")
    (hd : y.cls ≠ "java/lang/invoke/MethodHandle" ∧ y.cls ≠ "java/lang/invoke/VarHandle" ∧ (parseMethodDescriptor y.desc).map (fun d => d.parameters.length) = some na)
    (recv : ∀ (as : List mV) (s : S) (mc ms : Nat) (ret : Option mV → S → Prop), P as s mc ms ret → as.length = na + 1 → ∃ (b : Nat) (as' : List mV), as = .inr (some b) :: as') :
    mm_CS p l e (mm_rm n mc ms) s0 m args below meth c cc nL Wd rho A ((2, i), na + 1, kd, P) := by
  intro as s mc' ms' ret hP hlen H locs cells slots pc ls rest hdg hW hS hc hs hsz hrl
  obtain ⟨b, as', rfl⟩ := recv _ _ _ _ _ hP hlen
  have hRR : (mm_rm n' mc' ms').frames + 1 ≤ (mm_rm n mc ms).frames ∧ 8 + (nLy + 11) + (mm_rm n' mc' ms').locals ≤ (mm_rm n mc ms).locals := ⟨hn, by show 8 + (nLy + 11) + 40 * n' ≤ 40 * n; omega⟩
  have e1 : ((Sum.inr (some b) :: as').reverse.map (mE rho) ++ rest.map (mE rho)) = (as'.map (mE rho)).reverse ++ .ref (rho b) :: rest.map (mE rho) := by
    simp [mE]
  rw [e1]
  exact va_runIN (As := as'.map (mE rho)) F (So _ _ _ _ _ hP) ⟨va_cnB na F.2.2.2.2 (tb_goodIn w5 (fun _ h => h)) rfl rfl rfl w1 (F.2.2.2.2 _ w4) hd hRR, hy1, F.2.2.2.2 _ w2⟩ ⟨mm_blind hKW, fun U hU hWm => ⟨rfl, hKW.1 s0 U hWm (hS.F hU) hK, by rw [hU]; exact hW, by rw [hU]; exact fun q h => hA q (Nat.le_trans hS.1 h)⟩⟩ rfl (by simpa using hlen) hsz rfl (lv_room (by rw [mm_cats]; exact hrl)) hdg ⟨hc, hs⟩
def mm_Pobj : mP S := fun as s mc ms ret => mc = 0 ∧ ms = 0 ∧ (∃ r, as = [.inr (some r)]) ∧ ret none s
def mm_Pmax : mP S := fun as s mc ms ret => mc = 0 ∧ ms = 0 ∧ ∃ x y, as = [.inl x, .inl y] ∧ ret (some (.inl (if x < y then y else x))) s
def mm_Pmin : mP S := fun as s mc ms ret => mc = 0 ∧ ms = 0 ∧ ∃ x y, as = [.inl x, .inl y] ∧ ret (some (.inl (if y < x then y else x))) s
theorem va_F_rf (A : Nat → Prop) (T : State) : va_F A T T := ⟨Nat.le_refl _, fun _ _ _ => rfl⟩
theorem mm_CSO (F : CallFix p m c cc nL s0 args tb own) (hn : 1 ≤ n) (w1 : Cond.methodLink own i objectInit ∈ tb) : mm_CS p l e (mm_rm n mc ms) s0 m args below meth c cc nL Wd rho A ((2, i), 1, 0, mm_Pobj) := by
  intro as s mc' ms' ret hP hlen H locs cells slots pc ls rest hdg hW hS hc hs hsz hrl
  obtain ⟨rfl, rfl, ⟨r, rfl⟩, hret⟩ := hP
  intro T hT X
  refine W.toGoes (g := F0 m pc ls (.ref (rho r) :: rest.map (mE rho))) hT X ?_
  refine W.objInit F.1 F.2.1 F.2.2.2.1 (F.2.2.2.2 _ w1) (F.2.2.2.2 _ wd_64) (F.2.2.2.2 _ wd_65) rfl (by rw [F.2.2.1]; exact hsz) rfl hdg hn (by show 2 * 0 + ((rest.map (mE rho)).map fun v => v.category).sum + 12 ≤ 40 * n; rw [mm_cats]; omega) ?_
  refine W.here (fun T' hT' X' hgo => ⟨none, T', T', T', [], hT', ?_, fun q hq => by simp at hq, rfl, rfl, ⟨⟨none, s, rfl, hret, by rw [hT']; exact hW⟩, va_F_rf _ _⟩, hgo⟩)
  rw [List.append_nil]
  exact X'
theorem mm_CSmax (F : CallFix p m c cc nL s0 args tb own) (hn : 1 ≤ n) (w1 : Cond.methodLink own i Lib.Math.max.name ∈ tb) : mm_CS p l e (mm_rm n mc ms) s0 m args below meth c cc nL Wd rho A ((1, i), 2, 1, mm_Pmax) := by
  intro as s mc' ms' ret hP hlen H locs cells slots pc ls rest hdg hW hS hc hs hsz hrl
  obtain ⟨rfl, rfl, x, y, rfl, hret⟩ := hP
  intro T hT X
  refine W.toGoes (g := F0 m pc ls (.int y :: .int x :: rest.map (mE rho))) hT X ?_
  refine va_mmax F.1 F.2.1 (F.2.2.1.trans hsz.symm) F.2.2.2.1 (F.2.2.2.2 _ w1) (F.2.2.2.2 _ wd_355) (F.2.2.2.2 _ wd_57) (F.2.2.2.2 _ wd_356) hn (by show ((rest.map (mE rho)).map fun v => v.category).sum + 13 ≤ 40 * n; rw [mm_cats]; omega) hc hs hdg ?_
  refine W.here (fun T' hT' X' hgo => ⟨some (.int _), T', T', T', [], hT', ?_, fun q hq => by simp at hq, rfl, rfl, ⟨⟨some (.inl _), s, rfl, hret, by rw [hT']; exact hW⟩, va_F_rf _ _⟩, hgo⟩)
  rw [List.append_nil]
  exact X'
theorem mm_CSmin (F : CallFix p m c cc nL s0 args tb own) (hn : 1 ≤ n) (w1 : Cond.methodLink own i Lib.Math.min.name ∈ tb) : mm_CS p l e (mm_rm n mc ms) s0 m args below meth c cc nL Wd rho A ((1, i), 2, 1, mm_Pmin) := by
  intro as s mc' ms' ret hP hlen H locs cells slots pc ls rest hdg hW hS hc hs hsz hrl
  obtain ⟨rfl, rfl, x, y, rfl, hret⟩ := hP
  intro T hT X
  refine W.toGoes (g := F0 m pc ls (.int y :: .int x :: rest.map (mE rho))) hT X ?_
  refine va_mmin F.1 F.2.1 (F.2.2.1.trans hsz.symm) F.2.2.2.1 (F.2.2.2.2 _ w1) (F.2.2.2.2 _ wd_501) (F.2.2.2.2 _ wd_57) (F.2.2.2.2 _ wd_502) hn (by show ((rest.map (mE rho)).map fun v => v.category).sum + 13 ≤ 40 * n; rw [mm_cats]; omega) hc hs hdg ?_
  refine W.here (fun T' hT' X' hgo => ⟨some (.int _), T', T', T', [], hT', ?_, fun q hq => by simp at hq, rfl, rfl, ⟨⟨some (.inl _), s, rfl, hret, by rw [hT']; exact hW⟩, va_F_rf _ _⟩, hgo⟩)
  rw [List.append_nil]
  exact X'
end MMX
