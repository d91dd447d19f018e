/-! THE CLAIM OUT OF ONE WALK OF THE LAW'S BODY. Your part is whole_start (and what it stands on); all else here is the same for every law, but numbers. -/
def R_law : String := "RopeShelfLaw"
def lw_P (b : Addr) (xs : List Int32) (args : Array Value) (s : State) : Prop := args = #[.ref b] ∧ s.IntsAt b xs ∧ xs.length ≤ 2560 ∧ (Jvm.Cond.and given_1 narrow_1).before args s = true
def lw_Q (_ : Array Value) (s : State) (o : Outcome) (t : State) : Prop := o = .returned (some (.int 1)) ∧ Framed s o t [] 600000 7302250
def lw_Z (below : List Frame) (a : Array Value) (s : State) : State → Prop := fun t => ∃ o, t.status = .running ∧ Ended t below o ∧ lw_Q a s o t
/-- the law's own end, with 1 on the stack, nothing written that was there before, its room as the claim has it -/
theorem lw_ret {p : Program} {l : Launch} {e : Env} {s : State} {m : MethodId} {below : List Frame} {meth : Method} {c : Code} {b : Nat} (hx : p.tables.exec = Jvm.exec) (hb : c.code = code) (hr : meth.sig.returnType = ret) (hlocks : meth.locks = false) {pc : Nat} {H : Heap} {ls : Array Slot} (hdg : decode code pc = .ok (.ireturn, 1)) : W p l e room_1 s m #[Value.ref b] below meth c H [] 600000 7302250 (lw_Z below #[Value.ref b] s) (F0 m pc ls [.int 1]) := by
  intro T hT X
  obtain ⟨fs, hret, hrun, hended, hW, hframe⟩ := X.leave (v := some (.int 1)) (hlocks := hlocks) (fun h => by rw [hr] at h; cases h)
  have hmeth' : T.vm.method? m = some meth := X.method'
  refine ⟨T.setFrames fs, ?_, .returned (some (.int 1)), hrun, hended, rfl, ⟨_, rfl⟩, hW, hframe⟩
  jvm_step X.here [X.here.top, hx, hb, hdg, hmeth', hr, ret, narrow_b1]
  (try refine ⟨rfl, ?_⟩); (try refine ⟨rfl, ?_⟩)
  first | (intro acts; rw [hret _ acts rfl rfl rfl]) | rw [hret _ _ rfl rfl rfl]
  exact Steps.refl _
/-- what holds at the law's entry: the machine, the code, the tables' words (any of lw_tbl by 'hts w (by decide +kernel)'), the script of L ints xs at the cell b, what the Statement gives of the start (any of its parts by flat_of_before) -/
def lw_At (p : Program) (s : State) (m : MethodId) (meth : Method) (c : Code) (b L : Nat) (xs : Nat → Int32) : Prop :=
  p.tables.exec = Jvm.exec ∧ c.code = code ∧ meth.sig.returnType = ret ∧ c.maxLocals = 4 ∧ s.vm.findClass R_law = some m.cls ∧ (∀ w ∈ lw_tbl, w.before #[Value.ref b] s = true) ∧ va_X b L xs s s.heap ∧ b < s.heap.size ∧ meth.locks = false ∧ (Jvm.Cond.and given_1 narrow_1).before #[Value.ref b] s = true
/-! ===== the law's calls, out of both worlds ===== -/
theorem x_W_A {D : va_G} {cs ad : Nat → Nat} {A : Nat → Prop} {σ : xS} {H : Heap} (h : x_W D cs ad A σ H) {k : Nat} {e : va_E} (he : x_e cs ad σ k = some e) : A (x_rho ad k) := by
  rcases (h.1 k e he).2 with g | ⟨-, g⟩
  · exact g
  · unfold x_e at he
    rw [if_pos g] at he
    cases he
theorem x_W_keep {D : va_G} {cs ad : Nat → Nat} {A : Nat → Prop} {σ : xS} {H H1 : Heap} (h : x_W D cs ad A σ H) (hq : ∀ q : Nat, q < H.size → A q → H1[q]? = H[q]?) : x_W D cs ad A σ H1 :=
  ⟨fun k e he => ⟨(h.1 k e he).1.kept (hq _ (h.1 k e he).1.lt (x_W_A h he)), (h.1 k e he).2⟩, h.2⟩
theorem x_W_nar {D : va_G} {cs ad : Nat → Nat} {A B : Nat → Prop} {σ : xS} {H : Heap} (h : x_W D cs ad A σ H) (hq : ∀ q : Nat, q < H.size → A q → B q) : x_W D cs ad B σ H :=
  ⟨fun k e he => ⟨(h.1 k e he).1, Or.inl (hq _ (h.1 k e he).1.lt (x_W_A h he))⟩, h.2⟩
theorem rf_keep {D : va_G} {cs ad : Nat → Nat} {A : Nat → Prop} {μ : rf_M} {H H1 : Heap} (h : rf_W D cs ad A μ H) (hq : ∀ q : Nat, q < H.size → A q → H1[q]? = H[q]?) : rf_W D cs ad A μ H1 :=
  ⟨h.1.kept (fun k q hk => hq _ (h.1 k q hk).lt (h.2.2 k q hk)), h.2⟩
def lw_RM (cs ad : Nat → Nat) (q : Nat) : Prop := q ∈ (rf_ws cs ad rc_mu).map (fun x => x.1)
theorem rf_fst (cs ad : Nat → Nat) (μ : rf_M) : (rf_ws cs ad μ).map (fun x => x.1) = (rf_ws cs ad rc_mu).map (fun x => x.1) := rfl
theorem rf_RM {D : va_G} {cs ad : Nat → Nat} {A : Nat → Prop} {μ : rf_M} {H : Heap} (h : rf_W D cs ad A μ H) : rf_W D cs ad (lw_RM cs ad) μ H :=
  ⟨h.1, h.2.1, fun k q hk => by
    unfold lw_RM
    rw [← rf_fst cs ad μ]
    exact List.mem_map.mpr ⟨q, List.mem_of_getElem? hk, rfl⟩⟩
theorem rf_get {D : va_G} {cs ad : Nat → Nat} {A : Nat → Prop} {μ : rf_M} {H : Heap} (h : rf_W D cs ad A μ H) {q : Nat} (hq : lw_RM cs ad q) : q < H.size ∧ A q := by
  unfold lw_RM at hq
  rw [← rf_fst cs ad μ] at hq
  obtain ⟨x, hx, rfl⟩ := List.mem_map.mp hq
  obtain ⟨k, hk, e⟩ := List.getElem_of_mem hx
  have hk' : (rf_ws cs ad μ)[k]? = some x := by rw [List.getElem?_eq_getElem hk, e]
  exact ⟨(h.1 k x hk').lt, h.2.2 k x hk'⟩
theorem rf_nar {D : va_G} {cs ad : Nat → Nat} {A B : Nat → Prop} {μ : rf_M} {H : Heap} (h : rf_W D cs ad A μ H) (hAB : ∀ q, A q → B q) : rf_W D cs ad B μ H := ⟨h.1, h.2.1, fun k q hk => hAB _ (h.2.2 k q hk)⟩
theorem kk_nar {D : va_G} {cs sa : Nat → Nat} {A B : Nat → Prop} {U : State} (h : kk D cs sa A U) (hAB : ∀ q, B q → A q) : kk D cs sa B U := ⟨h.1, h.2.1, h.2.2.1, ⟨h.2.2.2.1.1.narrow hAB, h.2.2.2.1.2.narrow hAB⟩, ⟨h.2.2.2.2.1.narrow hAB, h.2.2.2.2.2.narrow hAB⟩⟩
def lw_AL (s : State) (q : Nat) : Prop := s.heap.size ≤ q
def lw_AX (s : State) (cs ad2 : Nat → Nat) (q : Nat) : Prop := s.heap.size ≤ q ∧ ¬ lw_RM cs ad2 q
def lw_Wd (s : State) (D : va_G) (cs ad ad2 : Nat → Nat) (x : lS) (H : Heap) : Prop := x_W D cs ad (lw_AX s cs ad2) x.1 H ∧ rf_W D cs ad2 (lw_RM cs ad2) x.2 H
def lw_rho (ad ad2 : Nat → Nat) (b k : Nat) : Nat := match k with
  | 0 => ad 0
  | 39 => ad2 39
  | _ => b
theorem lw_mI (r1 r2 : Nat → Nat) : ∀ is : List Int32, (is.map (Sum.inl : Int32 → mV)).map (mE r1) = (is.map (Sum.inl : Int32 → mV)).map (mE r2)
  | [] => rfl
  | v :: r => by
    rw [List.map_cons, List.map_cons, List.map_cons, lw_mI r1 r2 r]
    rfl
theorem va_S_F {A : Nat → Prop} {s U : State} {H : Heap} {locs : List Loc} (hS : va_S (lw_AL s) s.heap H locs) (hU : U.heap = H) : va_F A s U := ⟨by rw [hU]; exact hS.1, fun q h1 _ => by rw [hU]; exact hS.2.1 q h1 (Nat.not_le.mpr h1)⟩
section LWC
variable {p : Program} {l : Launch} {e : Env} {s0 : State} {m : MethodId} {args : Array Value} {below : List Frame} {meth : Method} {c : Code} {D : va_G} {cs ad ad2 : Nat → Nat} {b0 i na kd n' nLy : Nat} {y : MethodName} {cy : ByteArray}
theorem lw_CSX {P : mP xS} (F : CallFix p m c cL_law 4 s0 args tb RL) (hKX : kk D cs (fun i => ad (22 + i)) (lw_AX s0 cs ad2) s0) (So : ∀ A, mm_So l (x_W D cs ad A) (kk D cs (fun i => ad (22 + i)) A) (x_rho ad) A y cy nLy (some .int) n' P) (hn : n' ≤ 2000) (hL : nLy ≤ 21) (w1 : Cond.methodLink RL i y ∈ tb) (w2 : Cond.instanceMethod y ∈ tb) (w3 : Cond.selects RX6 y y ∈ tb) (w4 : Cond.initialized RX6 ∈ tb) (w5 : Cond.code y cy nLy (some .int) ∈ tb)
    (hd : y.cls = RX6 ∧ y.cls ≠ "java/lang/invoke/MethodHandle" ∧ y.cls ≠ "java/lang/invoke/VarHandle" ∧ (parseMethodDescriptor y.desc).map (fun d => d.parameters.length) = some na)
    (recv : ∀ (as : List mV) (s : xS) (mc ms : Nat) (ret : Option mV → xS → Prop), P as s mc ms ret → as.length = na + 1 → ∃ (b : Nat) (as' : List mV), as = .inr (some b) :: as' ∧ ∀ H : Heap, x_W D cs ad (lw_AX s0 cs ad2) s H → ∃ cellB : Cell, H[x_rho ad b]? = some cellB ∧ cellB.vm.isStatics = false ∧ s0.vm.findClass RX6 = some cellB.cls) :
    mm_CS p l e room_1 s0 m args below meth c cL_law 4 (lw_Wd s0 D cs ad ad2) (lw_rho ad ad2 b0) (lw_AL s0) ((0, i), na + 1, kd, lw_PX P) := by
  intro as s mc' ms' ret hP hlen H locs cells slots pc ls rest hdg hW hS hc hs hsz hrl
  obtain ⟨is, Q1, rfl, hP, hQ⟩ := hP
  obtain ⟨hwx, hwr⟩ := hW
  have hAX : ∀ q : Nat, H.size ≤ q → lw_AX s0 cs ad2 q := fun q h => ⟨Nat.le_trans hS.1 h, fun z => by have := (rf_get hwr z).1; omega⟩
  obtain ⟨b1, as1, e0, hrc⟩ := recv _ _ _ _ _ hP hlen
  cases e0
  have hG : GoodIn tb (wsV RL i RX6 y (Cond.code y cy nLy (some .int) :: tb)) := by
    intro w hw
    unfold wsV at hw
    rcases List.mem_append.mp hw with h | h
    · simp only [List.mem_cons, List.not_mem_nil, or_false] at h
      rcases h with rfl | rfl | rfl | rfl
      · exact tb_gd w1
      · exact tb_gd w2
      · exact tb_gd w3
      · exact tb_gd w4
    · exact tb_goodIn w5 (fun _ h => h) w h
  have hRR : (mm_rm n' mc' ms').frames + 1 ≤ room_1.frames ∧ 8 + (nLy + 11) + (mm_rm n' mc' ms').locals ≤ room_1.locals := ⟨by show n' + 1 ≤ 2048; omega, by show 8 + (nLy + 11) + 40 * n' ≤ 84000; omega⟩
  have e1 : ((Sum.inr (some 0) :: is.map Sum.inl : List mV).reverse.map (mE (lw_rho ad ad2 b0)) ++ rest.map (mE (lw_rho ad ad2 b0))) = ((is.map (Sum.inl : Int32 → mV)).map (mE (x_rho ad))).reverse ++ .ref (x_rho ad 0) :: rest.map (mE (lw_rho ad ad2 b0)) := by
    rw [lw_mI (x_rho ad) (lw_rho ad ad2 b0), List.reverse_cons, List.map_append, List.map_reverse, List.append_assoc]
    rfl
  rw [e1]
  have run := va_runV (e := e) (meth := meth) (locs := locs) (H := H) (R := room_1) (below := below) (As := (is.map (Sum.inl : Int32 → mV)).map (mE (x_rho ad))) (g := F0 m pc ls (((is.map (Sum.inl : Int32 → mV)).map (mE (x_rho ad))).reverse ++ .ref (x_rho ad 0) :: rest.map (mE (lw_rho ad ad2 b0)))) F (So (lw_AX s0 cs ad2) _ _ _ _ _ hP) (cwV na F.2.2.2.2 hG rfl rfl rfl hd hRR) ⟨mm_blind (kk_KW D cs _ (lw_AX s0 cs ad2)), hrc H hwx, fun U hU hWm => ⟨rfl, (kk_KW D cs _ (lw_AX s0 cs ad2)).1 s0 U hWm (va_S_F hS hU) hKX, by rw [hU]; exact hwx, by rw [hU]; exact hAX⟩⟩ rfl (by simpa using hlen) hsz rfl (lv_room (by rw [mm_cats]; exact hrl)) hdg ⟨hc, hs⟩
  intro T hT X
  obtain ⟨v, st₀, t, T', L, h0, X', hL', e1, e2, ⟨⟨r, σ', hv, hp, hb⟩, hz, hk⟩, stp⟩ := run T hT X
  obtain ⟨r0, rfl, hp⟩ := hp
  rw [h0] at hk
  exact ⟨v, st₀, t, T', L, h0, X', fun q hq => (hL' q hq).1, e1, e2, ⟨⟨some (.inl r0), (σ', s.2), hv, hQ r0 σ' hp, hb, rf_keep hwr (fun q hq hR => hk q hq (fun z => z.2 hR))⟩, hz, fun q h1 h2 => by rw [h0] at h1 ⊢; exact hk q h1 (fun z => h2 z.1)⟩, stp⟩
theorem lw_CSM {P : mP rf_M} {sa : Nat → Nat} (F : CallFix p m c cL_law 4 s0 args tb RL) (hK : kk D cs sa (lw_AL s0) s0) (hrw : ∀ q, lw_RM cs ad2 q → lw_AL s0 q) (So : ∀ A, mm_So l (rf_W D cs ad2 A) (kk D cs sa A) ad2 A y cy nLy (some .int) n' P) (hn : n' ≤ 2000) (hL : nLy ≤ 21) (w1 : Cond.methodLink RL i y ∈ tb) (w2 : Cond.instanceMethod y ∈ tb) (w3 : Cond.selects RX7 y y ∈ tb) (w4 : Cond.initialized RX7 ∈ tb) (w5 : Cond.code y cy nLy (some .int) ∈ tb)
    (hd : y.cls = RX7 ∧ y.cls ≠ "java/lang/invoke/MethodHandle" ∧ y.cls ≠ "java/lang/invoke/VarHandle" ∧ (parseMethodDescriptor y.desc).map (fun d => d.parameters.length) = some na)
    (recv : ∀ A, kk D cs sa A s0 → ∀ (as : List mV) (s : rf_M) (mc ms : Nat) (ret : Option mV → rf_M → Prop), P as s mc ms ret → as.length = na + 1 → ∃ (b : Nat) (as' : List mV), as = .inr (some b) :: as' ∧ ∀ H : Heap, rf_W D cs ad2 A s H → ∃ cellB : Cell, H[ad2 b]? = some cellB ∧ cellB.vm.isStatics = false ∧ s0.vm.findClass RX7 = some cellB.cls) :
    mm_CS p l e room_1 s0 m args below meth c cL_law 4 (lw_Wd s0 D cs ad ad2) (lw_rho ad ad2 b0) (lw_AL s0) ((0, i), na + 1, kd, lw_PM P) := by
  intro as s mc' ms' ret hP hlen H locs cells slots pc ls rest hdg hW hS hc hs hsz hrl
  obtain ⟨is, Q1, rfl, hP, hQ⟩ := hP
  obtain ⟨hwx, hwr⟩ := hW
  obtain ⟨AM, hAM⟩ : ∃ AM : Nat → Prop, AM = fun q => lw_RM cs ad2 q ∨ H.size ≤ q := ⟨_, rfl⟩
  have hA1 : ∀ q, AM q → lw_AL s0 q := fun q h => by
    rw [hAM] at h
    exact h.elim (hrw q) (fun z => Nat.le_trans hS.1 z)
  have hA2 : ∀ q : Nat, H.size ≤ q → AM q := fun q h => by rw [hAM]; exact Or.inr h
  have hA3 : ∀ q, lw_RM cs ad2 q → AM q := fun q h => by rw [hAM]; exact Or.inl h
  have hKM := kk_nar hK hA1
  have hwm := rf_nar hwr hA3
  obtain ⟨b1, as1, e0, hrc⟩ := recv AM hKM _ _ _ _ _ hP hlen
  cases e0
  have hG : GoodIn tb (wsV RL i RX7 y (Cond.code y cy nLy (some .int) :: tb)) := by
    intro w hw
    unfold wsV at hw
    rcases List.mem_append.mp hw with h | h
    · simp only [List.mem_cons, List.not_mem_nil, or_false] at h
      rcases h with rfl | rfl | rfl | rfl
      · exact tb_gd w1
      · exact tb_gd w2
      · exact tb_gd w3
      · exact tb_gd w4
    · exact tb_goodIn w5 (fun _ h => h) w h
  have hRR : (mm_rm n' mc' ms').frames + 1 ≤ room_1.frames ∧ 8 + (nLy + 11) + (mm_rm n' mc' ms').locals ≤ room_1.locals := ⟨by show n' + 1 ≤ 2048; omega, by show 8 + (nLy + 11) + 40 * n' ≤ 84000; omega⟩
  have e1 : ((Sum.inr (some 39) :: is.map Sum.inl : List mV).reverse.map (mE (lw_rho ad ad2 b0)) ++ rest.map (mE (lw_rho ad ad2 b0))) = ((is.map (Sum.inl : Int32 → mV)).map (mE ad2)).reverse ++ .ref (ad2 39) :: rest.map (mE (lw_rho ad ad2 b0)) := by
    rw [lw_mI ad2 (lw_rho ad ad2 b0), List.reverse_cons, List.map_append, List.map_reverse, List.append_assoc]
    rfl
  rw [e1]
  have run := va_runV (e := e) (meth := meth) (locs := locs) (H := H) (R := room_1) (below := below) (As := (is.map (Sum.inl : Int32 → mV)).map (mE ad2)) (g := F0 m pc ls (((is.map (Sum.inl : Int32 → mV)).map (mE ad2)).reverse ++ .ref (ad2 39) :: rest.map (mE (lw_rho ad ad2 b0)))) F (So AM _ _ _ _ _ hP) (cwV na F.2.2.2.2 hG rfl rfl rfl hd hRR) ⟨mm_blind (kk_KW D cs sa AM), hrc H hwm, fun U hU hWm => ⟨rfl, (kk_KW D cs sa AM).1 s0 U hWm (va_S_F hS hU) hKM, by rw [hU]; exact hwm, by rw [hU]; exact hA2⟩⟩ rfl (by simpa using hlen) hsz rfl (lv_room (by rw [mm_cats]; exact hrl)) hdg ⟨hc, hs⟩
  intro T hT X
  obtain ⟨v, st₀, t, T', L, h0, X', hL', e1, e2, ⟨⟨r, μ', hv, hp, hb⟩, hz, hk⟩, stp⟩ := run T hT X
  obtain ⟨r0, rfl, hp⟩ := hp
  rw [h0] at hk
  have hkx : ∀ q : Nat, q < H.size → lw_AX s0 cs ad2 q → t.heap[q]? = H[q]? := fun q hq hx => hk q hq (fun z => by
    rw [hAM] at z
    rcases z with z | z
    · exact hx.2 z
    · omega)
  exact ⟨v, st₀, t, T', L, h0, X', fun q hq => hA1 _ (hL' q hq), e1, e2, ⟨⟨some (.inl r0), (s.1, μ'), hv, hQ r0 μ' hp, x_W_keep hwx hkx, rf_RM hb⟩, hz, fun q h1 h2 => by rw [h0] at h1 ⊢; exact hk q h1 (fun z => h2 (hA1 q z))⟩, stp⟩
theorem lw_HS {R : Room} {Q : State → Prop} {rho : Nat → Nat} {Wd : lS → Heap → Prop} {L : Nat} {xs : Nat → Int32} (F : CallFix p m c cL_law 4 s0 args tb RL) (h50 : rho 50 = b0) (hX : va_X b0 L xs s0 s0.heap) (hbl : b0 < s0.heap.size) : mm_HS p l e R s0 m args below meth c cL_law Wd rho (lw_AL s0) (lw_hk L xs) Q := by
  obtain ⟨hx, hb, -, -, -⟩ := F
  have hbA : ¬ lw_AL s0 b0 := Nat.not_le.mpr hbl
  intro ins len pc st sx a bb k h hd hn H locs cells slots ls hW hS hc hs kk
  unfold lw_hk at h
  split at h
  · obtain rfl : len = 1 := by simpa [mm_okl] using hn
    split at h
    · rename_i st'
      rw [List.map_cons, show mE rho (.inr (some 50)) = .ref b0 from congrArg Value.ref h50]
      exact va_slen hx hb hX hbl hbA hS hd (kk _ _ _ _ _ _ _ _ h hW hS hc hs)
    · exact h.elim
  · obtain rfl : len = 1 := by simpa [mm_okl] using hn
    split at h
    · rename_i i st'
      rw [List.map_cons, List.map_cons, show mE rho (.inr (some 50)) = .ref b0 from congrArg Value.ref h50]
      exact va_sld hx hb hX hbl hbA hS h.1 hd (kk _ _ _ _ _ _ _ _ h.2 hW hS hc hs)
    · exact h.elim
  · exact h.elim
end LWC
theorem lw_go {p : Program} {l : Launch} {e : Env} {R : Room} {s : State} {m : MethodId} {args : Array Value} {below : List Frame} {meth : Method} {c : Code} {H : Heap} {locs : List Loc} {cells slots mc ms pc : Nat} {ls : Array Slot} {st0 rest : List Value} {Qa : State → Outcome → State → Prop} {free : Addr → Prop} {Q : State → Prop} (run : va_Run p l e R s m args below meth c H locs cells slots mc ms (F0 m pc ls st0) rest Qa free)
    (kk : ∀ (v : Option Value) (st₀ t : State) (H1 : Heap) (Lc : List Loc), st₀.heap = H → t.heap = H1 → (∀ q ∈ Lc, free q.base) → Qa st₀ (.returned v) t → W p l e R s m args below meth c H1 (locs ++ Lc) (cells + mc) (slots + ms) Q (F0 m (pc + 3) ls (v.toList ++ rest))) : W p l e R s m args below meth c H locs cells slots Q (F0 m pc ls st0) := by
  intro T hT X
  obtain ⟨v, st₀, t, T', Lc, h0, X', hL, e1, e2, hq, stp⟩ := run T hT X
  obtain ⟨t2, a1, b1⟩ := kk v st₀ t T'.heap Lc h0 e1.symm hL hq T' rfl X'
  exact ⟨t2, stp t2 a1, b1⟩
set_option maxHeartbeats 4000000 in
theorem lw_CS {p : Program} {e : Env} {s0 : State} {m : MethodId} {args : Array Value} {below : List Frame} {meth : Method} {c : Code} {D : va_G} {cs ad ad2 : Nat → Nat} {b0 : Nat} (l : Launch) (F : CallFix p m c cL_law 4 s0 args tb RL) (hK : kk D cs (fun i => ad (22 + i)) (lw_AL s0) s0) (hKX : kk D cs (fun i => ad (22 + i)) (lw_AX s0 cs ad2) s0) (hrw : ∀ q, lw_RM cs ad2 q → lw_AL s0 q) : ∀ q ∈ sp_law, mm_CS p l e room_1 s0 m args below meth c cL_law 4 (lw_Wd s0 D cs ad ad2) (lw_rho ad ad2 b0) (lw_AL s0) q := List.forall_mem_cons.mpr ⟨lw_CSX F hKX (fun A => so_X6_rule l D cs ad A) (by decide) (by decide) wd_260 wd_261 wd_262 wd_49 wd_263 ⟨rfl, by decide, by decide, rfl⟩ (x_recv (ci := 6) rfl hKX), List.forall_mem_cons.mpr ⟨lw_CSM F hK hrw (fun A => so_rule l D cs _ ad2 A) (by decide) (by decide) wd_725 wd_726 wd_727 wd_56 wd_728 ⟨rfl, by decide, by decide, rfl⟩ (fun A h => rf_recv h), List.forall_mem_cons.mpr ⟨lw_CSX F hKX (fun A => so_X6_say l D cs ad A) (by decide) (by decide) wd_271 wd_272 wd_273 wd_49 wd_274 ⟨rfl, by decide, by decide, rfl⟩ (x_recv (ci := 6) rfl hKX), List.forall_mem_cons.mpr ⟨lw_CSM F hK hrw (fun A => so_say l D cs _ ad2 A) (by decide) (by decide) wd_732 wd_733 wd_734 wd_56 wd_735 ⟨rfl, by decide, by decide, rfl⟩ (fun A h => rf_recv h), List.forall_mem_cons.mpr ⟨lw_CSX F hKX (fun A => so_X6_put l D cs ad A) (by decide) (by decide) wd_279 wd_280 wd_281 wd_49 wd_282 ⟨rfl, by decide, by decide, rfl⟩ (x_recv (ci := 6) rfl hKX), List.forall_mem_cons.mpr ⟨lw_CSM F hK hrw (fun A => so_put l D cs _ ad2 A) (by decide) (by decide) wd_736 wd_737 wd_738 wd_56 wd_739 ⟨rfl, by decide, by decide, rfl⟩ (fun A h => rf_recv h), List.forall_mem_cons.mpr ⟨lw_CSX F hKX (fun A => so_X6_copy l D cs ad A) (by decide) (by decide) wd_309 wd_310 wd_311 wd_49 wd_312 ⟨rfl, by decide, by decide, rfl⟩ (x_recv (ci := 6) rfl hKX), List.forall_mem_cons.mpr ⟨lw_CSM F hK hrw (fun A => so_copy l D cs _ ad2 A) (by decide) (by decide) wd_760 wd_761 wd_762 wd_56 wd_763 ⟨rfl, by decide, by decide, rfl⟩ (fun A h => rf_recv h), List.forall_mem_cons.mpr ⟨lw_CSX F hKX (fun A => so_X6_join l D cs ad A) (by decide) (by decide) wd_317 wd_318 wd_319 wd_49 wd_320 ⟨rfl, by decide, by decide, rfl⟩ (x_recv (ci := 6) rfl hKX), List.forall_mem_cons.mpr ⟨lw_CSM F hK hrw (fun A => so_join l D cs _ ad2 A) (by decide) (by decide) wd_764 wd_765 wd_766 wd_56 wd_767 ⟨rfl, by decide, by decide, rfl⟩ (fun A h => rf_recv h), List.forall_mem_cons.mpr ⟨lw_CSX F hKX (fun A => so_X6_cut l D cs ad A) (by decide) (by decide) wd_388 wd_389 wd_390 wd_49 wd_391 ⟨rfl, by decide, by decide, rfl⟩ (x_recv (ci := 6) rfl hKX), List.forall_mem_cons.mpr ⟨lw_CSM F hK hrw (fun A => so_cut l D cs _ ad2 A) (by decide) (by decide) wd_796 wd_797 wd_798 wd_56 wd_799 ⟨rfl, by decide, by decide, rfl⟩ (fun A h => rf_recv h), List.forall_mem_cons.mpr ⟨lw_CSX F hKX (fun A => so_X6_flat l D cs ad A) (by decide) (by decide) wd_414 wd_415 wd_416 wd_49 wd_417 ⟨rfl, by decide, by decide, rfl⟩ (x_recv (ci := 6) rfl hKX), List.forall_mem_cons.mpr ⟨lw_CSM F hK hrw (fun A => so_flat l D cs _ ad2 A) (by decide) (by decide) wd_816 wd_817 wd_818 wd_56 wd_819 ⟨rfl, by decide, by decide, rfl⟩ (fun A h => rf_recv h), List.forall_mem_cons.mpr ⟨lw_CSX F hKX (fun A => so_X6_sign l D cs ad A) (by decide) (by decide) wd_424 wd_425 wd_426 wd_49 wd_427 ⟨rfl, by decide, by decide, rfl⟩ (x_recv (ci := 6) rfl hKX), List.forall_mem_cons.mpr ⟨lw_CSM F hK hrw (fun A => so_sign l D cs _ ad2 A) (by decide) (by decide) wd_820 wd_821 wd_822 wd_56 wd_823 ⟨rfl, by decide, by decide, rfl⟩ (fun A h => rf_recv h), List.forall_mem_cons.mpr ⟨lw_CSX F hKX (fun A => so_X6_hash l D cs ad A) (by decide) (by decide) wd_429 wd_430 wd_431 wd_49 wd_432 ⟨rfl, by decide, by decide, rfl⟩ (x_recv (ci := 6) rfl hKX), List.forall_mem_cons.mpr ⟨lw_CSM F hK hrw (fun A => so_hash l D cs _ ad2 A) (by decide) (by decide) wd_824 wd_825 wd_826 wd_56 wd_827 ⟨rfl, by decide, by decide, rfl⟩ (fun A h => rf_recv h), List.forall_mem_cons.mpr ⟨lw_CSX F hKX (fun A => so_X6_told l D cs ad A) (by decide) (by decide) wd_437 wd_438 wd_439 wd_49 wd_440 ⟨rfl, by decide, by decide, rfl⟩ (x_recv (ci := 6) rfl hKX), List.forall_mem_cons.mpr ⟨lw_CSM F hK hrw (fun A => so_told l D cs _ ad2 A) (by decide) (by decide) wd_828 wd_829 wd_830 wd_56 wd_831 ⟨rfl, by decide, by decide, rfl⟩ (fun A h => rf_recv h), List.forall_mem_cons.mpr ⟨lw_CSX F hKX (fun A => so_X6_piece l D cs ad A) (by decide) (by decide) wd_474 wd_475 wd_476 wd_49 wd_477 ⟨rfl, by decide, by decide, rfl⟩ (x_recv (ci := 6) rfl hKX), List.forall_mem_cons.mpr ⟨lw_CSM F hK hrw (fun A => so_piece l D cs _ ad2 A) (by decide) (by decide) wd_844 wd_845 wd_846 wd_56 wd_847 ⟨rfl, by decide, by decide, rfl⟩ (fun A h => rf_recv h), List.forall_mem_cons.mpr ⟨lw_CSX F hKX (fun A => so_X6_alike l D cs ad A) (by decide) (by decide) wd_484 wd_485 wd_486 wd_49 wd_487 ⟨rfl, by decide, by decide, rfl⟩ (x_recv (ci := 6) rfl hKX), List.forall_mem_cons.mpr ⟨lw_CSM F hK hrw (fun A => so_alike l D cs _ ad2 A) (by decide) (by decide) wd_848 wd_849 wd_850 wd_56 wd_851 ⟨rfl, by decide, by decide, rfl⟩ (fun A h => rf_recv h), List.forall_mem_cons.mpr ⟨lw_CSX F hKX (fun A => so_X6_intern l D cs ad A) (by decide) (by decide) wd_516 wd_517 wd_518 wd_49 wd_519 ⟨rfl, by decide, by decide, rfl⟩ (x_recv (ci := 6) rfl hKX), List.forall_mem_cons.mpr ⟨lw_CSM F hK hrw (fun A => so_intern l D cs _ ad2 A) (by decide) (by decide) wd_872 wd_873 wd_874 wd_56 wd_875 ⟨rfl, by decide, by decide, rfl⟩ (fun A h => rf_recv h), List.forall_mem_cons.mpr ⟨lw_CSX F hKX (fun A => so_X6_sweep l D cs ad A) (by decide) (by decide) wd_544 wd_545 wd_546 wd_49 wd_547 ⟨rfl, by decide, by decide, rfl⟩ (x_recv (ci := 6) rfl hKX), List.forall_mem_cons.mpr ⟨lw_CSM F hK hrw (fun A => so_sweep l D cs _ ad2 A) (by decide) (by decide) wd_876 wd_877 wd_878 wd_56 wd_879 ⟨rfl, by decide, by decide, rfl⟩ (fun A h => rf_recv h), List.forall_mem_cons.mpr ⟨lw_CSX F hKX (fun A => so_X6_entry l D cs ad A) (by decide) (by decide) wd_557 wd_558 wd_559 wd_49 wd_560 ⟨rfl, by decide, by decide, rfl⟩ (x_recv (ci := 6) rfl hKX), List.forall_mem_cons.mpr ⟨lw_CSM F hK hrw (fun A => so_entry l D cs _ ad2 A) (by decide) (by decide) wd_884 wd_885 wd_886 wd_56 wd_887 ⟨rfl, by decide, by decide, rfl⟩ (fun A h => rf_recv h), List.forall_mem_cons.mpr ⟨lw_CSX F hKX (fun A => so_X6_count l D cs ad A) (by decide) (by decide) wd_565 wd_566 wd_567 wd_49 wd_568 ⟨rfl, by decide, by decide, rfl⟩ (x_recv (ci := 6) rfl hKX), List.forall_mem_cons.mpr ⟨lw_CSM F hK hrw (fun A => so_count l D cs _ ad2 A) (by decide) (by decide) wd_888 wd_889 wd_890 wd_56 wd_891 ⟨rfl, by decide, by decide, rfl⟩ (fun A h => rf_recv h), List.forall_mem_cons.mpr ⟨lw_CSX F hKX (fun A => so_X6_image l D cs ad A) (by decide) (by decide) wd_569 wd_570 wd_571 wd_49 wd_572 ⟨rfl, by decide, by decide, rfl⟩ (x_recv (ci := 6) rfl hKX), List.forall_mem_cons.mpr ⟨lw_CSM F hK hrw (fun A => so_image l D cs _ ad2 A) (by decide) (by decide) wd_892 wd_893 wd_894 wd_56 wd_895 ⟨rfl, by decide, by decide, rfl⟩ (fun A h => rf_recv h), List.forall_mem_cons.mpr ⟨lw_CSX F hKX (fun A => so_X6_restore l D cs ad A) (by decide) (by decide) wd_583 wd_584 wd_585 wd_49 wd_586 ⟨rfl, by decide, by decide, rfl⟩ (x_recv (ci := 6) rfl hKX), List.forall_mem_cons.mpr ⟨lw_CSM F hK hrw (fun A => so_restore l D cs _ ad2 A) (by decide) (by decide) wd_896 wd_897 wd_898 wd_56 wd_899 ⟨rfl, by decide, by decide, rfl⟩ (fun A h => rf_recv h), fun _ h => absurd h List.not_mem_nil⟩⟩⟩⟩⟩⟩⟩⟩⟩⟩⟩⟩⟩⟩⟩⟩⟩⟩⟩⟩⟩⟩⟩⟩⟩⟩⟩⟩⟩⟩⟩⟩⟩⟩⟩⟩
/-! ===== the law, from its start ===== -/
def lw_ad (tL tG : Nat) : Nat → Nat := fun k => match k with
  | 22 => tL
  | 23 => tG
  | _ => 0
def lw_s0 : xS := (fun _ => none, fun k => match k with
  | 22 => some (3, rwL)
  | 23 => some (3, rwG)
  | _ => none, fun _ => none)
theorem lw_s0_low {k : Nat} (h : k ≠ 22 ∧ k ≠ 23) : lw_s0.2.1 k = none := by
  unfold lw_s0
  dsimp only
  split
  · exact absurd rfl h.1
  · exact absurd rfl h.2
  · rfl
theorem lw_s0_X : x_X lw_s0 := ⟨fun k => ⟨fun z => absurd rfl z, fun _ => rfl⟩, ⟨rfl, rfl, rfl, rfl⟩, fun t ht => by cases ht; exact ⟨rfl, fun _ _ => rfl⟩, fun t ht => by cases ht; exact ⟨rfl, fun _ _ => rfl⟩⟩
theorem lw_s0_e {cs ad : Nat → Nat} (k : Nat) : x_e cs ad lw_s0 k = none := by
  by_cases hk : k = 22 ∨ k = 23
  · unfold x_e; rw [if_pos hk]
  · have hk' : k ≠ 22 ∧ k ≠ 23 := ⟨fun z => hk (Or.inl z), fun z => hk (Or.inr z)⟩
    rw [x_e_n hk']
    unfold x_e0
    rw [lw_s0_low hk']
    rfl
theorem lw_s0_W {D : va_G} {cs ad : Nat → Nat} {A : Nat → Prop} {H : Heap} : x_W D cs ad A lw_s0 H := ⟨fun k e he => (by rw [lw_s0_e] at he; cases he), fun j k hj => absurd (lw_s0_e j) hj, lw_s0_X⟩
theorem CQ_gl {σ : xS} {LS sl : List Nat} (h : CQ σ LS sl) : (∀ x ∈ LS, 24 ≤ x) ∧ LS.Nodup ∧ sl.length = 8 ∧ sl.Nodup := by
  obtain ⟨_, _, _, _, _, _, _, _, _, _, _, _, _, _, _, _, _, _, _, _, _, _, -, gl, -, -, -, -, h8, hn, -⟩ := h
  exact ⟨fun x hx => (gl.2 x hx).1, gl.1, h8, hn⟩
/-- what the tables and the start give -/
theorem lw_kk {s : State} {b : Nat} (hts : ∀ w ∈ lw_tbl, w.before #[Value.ref b] s = true) (hgv : (Jvm.Cond.and given_1 narrow_1).before #[Value.ref b] s = true) : ∃ (D : va_G) (cs : Nat → Nat) (tL tG : Nat), kk D cs (fun i => lw_ad tL tG (22 + i)) (lw_AL s) s := by
  have htb : ∀ w ∈ tb, w.before #[Value.ref b] s = true := fun w hw => hts w (List.mem_filter.mp hw).1
  have hs := flat_of_before _ hgv
  have hAL : ∀ a : Nat, a < s.heap.size → ¬ lw_AL s a := fun a h => Nat.not_le.mpr h
  obtain ⟨c0, i0, k0⟩ := u_known (C := RX0) (T := TX0) (N := 9) (n := 9) htb in_X0 (htb _ wd_171)
  obtain ⟨c1, i1, k1⟩ := u_known (C := RX1) (T := TX1) (N := 2) (n := 2) htb in_X1 (htb _ wd_107)
  obtain ⟨c2, i2, k2⟩ := u_known (C := RX2) (T := TX2) (N := 4) (n := 4) htb in_X2 (htb _ wd_85)
  obtain ⟨c3, i3, k3⟩ := u_known (C := RX3) (T := TX3) (N := 2) (n := 2) htb in_X3 (htb _ wd_69)
  obtain ⟨c4, i4, k4⟩ := u_known (C := RX4) (T := TX4) (N := 3) (n := 3) htb in_X4 (htb _ wd_150)
  obtain ⟨c5, i5, k5⟩ := u_known (C := RX5) (T := TX5) (N := 5) (n := 5) htb in_X5 (htb _ wd_123)
  obtain ⟨c6, i6, k6⟩ := u_known (C := RX6) (T := TX6) (N := 11) (n := 11) htb in_X6 (htb _ wd_59)
  obtain ⟨c7, i7, k7⟩ := u_known (C := RX7) (T := TX7) (N := 39) (n := 39) htb in_X7 (htb _ wd_588)
  obtain ⟨a0, ka0, co0, f1, f2, f3⟩ := Cond.arrayClass_spec (htb _ wd_83)
  obtain ⟨a1, ka1, co1, g1, g2, g3⟩ := Cond.arrayClass_spec (htb _ wd_724)
  obtain ⟨co2, a2, ka2, e1, -, e3, e4, e5⟩ := Cond.arrayOver_spec (hts _ wn_67)
  obtain ⟨tL, evL, hTL⟩ := va_Tof (tm := .static "RopeShelf" "LEAST_RULES" "[I") (ty := .int) (N := 3) (f := fun j => .int (rwL j)) (A := lw_AL s) (by omega) (hs (.arrayOf (.static "RopeShelf" "LEAST_RULES" "[I") .int) (by decide +kernel)) (va_eqt (hs (.eq (.length (.static "RopeShelf" "LEAST_RULES" "[I")) (.int 3)) (by decide +kernel))) (fun j hj => by
    match j, hj with
    | 0, _ => exact va_eqt (hs (.eq (.elem (.static "RopeShelf" "LEAST_RULES" "[I") (.int 0)) (.int 0)) (by decide +kernel))
    | 1, _ => exact va_eqt (hs (.eq (.elem (.static "RopeShelf" "LEAST_RULES" "[I") (.int 1)) (.int 1)) (by decide +kernel))
    | 2, _ => exact va_eqt (hs (.eq (.elem (.static "RopeShelf" "LEAST_RULES" "[I") (.int 2)) (.int 1)) (by decide +kernel))
    | n + 3, h => omega) hAL
  obtain ⟨tG, evG, hTG⟩ := va_Tof (tm := .static "RopeShelf" "GREATEST_RULES" "[I") (ty := .int) (N := 3) (f := fun j => .int (rwG j)) (A := lw_AL s) (by omega) (hs (.arrayOf (.static "RopeShelf" "GREATEST_RULES" "[I") .int) (by decide +kernel)) (va_eqt (hs (.eq (.length (.static "RopeShelf" "GREATEST_RULES" "[I")) (.int 3)) (by decide +kernel))) (fun j hj => by
    match j, hj with
    | 0, _ => exact va_eqt (hs (.eq (.elem (.static "RopeShelf" "GREATEST_RULES" "[I") (.int 0)) (.int 32)) (by decide +kernel))
    | 1, _ => exact va_eqt (hs (.eq (.elem (.static "RopeShelf" "GREATEST_RULES" "[I") (.int 1)) (.int 12)) (by decide +kernel))
    | 2, _ => exact va_eqt (hs (.eq (.elem (.static "RopeShelf" "GREATEST_RULES" "[I") (.int 2)) (.int 8)) (by decide +kernel))
    | n + 3, h => omega) hAL
  refine ⟨(fun k => match k with
    | 0 => c0
    | 1 => c1
    | 2 => c2
    | 3 => c3
    | 4 => c4
    | 5 => c5
    | 6 => c6
    | _ => c7, fun k => match k with
    | 0 => i0
    | 1 => i1
    | 2 => i2
    | 3 => i3
    | 4 => i4
    | 5 => i5
    | 6 => i6
    | _ => i7), fun k => match k with
    | 0 => a0
    | 1 => a1
    | _ => a2, tL, tG, ⟨?_, ?_⟩, ?_, va_AO.of (hts _ wn_67), ⟨va_Zref (hts _ wn_268) (htb _ wd_49) evL hAL, hTL⟩, ⟨va_Zref (hts _ wn_270) (htb _ wd_49) evG hAL, hTG⟩⟩
  · intro k q hq
    match k, hq with
    | 0, hq => cases hq; exact k0
    | 1, hq => cases hq; exact k1
    | 2, hq => cases hq; exact k2
    | 3, hq => cases hq; exact k3
    | 4, hq => cases hq; exact k4
    | 5, hq => cases hq; exact k5
    | 6, hq => cases hq; exact k6
    | 7, hq => cases hq; exact k7
    | k + 8, hq => simp [classes] at hq
  · intro k q hq
    match k, hq with
    | 0, hq => cases hq; exact ⟨fun n z => ⟨fun k h => (by cases h), ka0, f2, co0, f3⟩, f1⟩
    | 1, hq => cases hq; exact ⟨fun n z => ⟨fun k h => (by cases h), ka1, g2, co1, g3⟩, g1⟩
    | 2, hq => cases hq; exact ⟨fun n z => ⟨fun k h => (by cases h), ka2, e3, co2, e4⟩, ka2, co2, e3, e4, e1, e5⟩
    | k + 3, hq => simp [tys] at hq
  · have key : ∀ q ∈ nests, Cond.methodLinkNest q.1 q.2.1 q.2.2.1 q.2.2.2 ∈ lw_tbl := by decide +kernel
    exact fun q hq => va_Nw.of rfl (hts _ (key q hq))
set_option maxHeartbeats 4000000 in
set_option maxRecDepth 100000 in
theorem lw_key {p : Program} {e : Env} {s : State} {m : MethodId} {below : List Frame} {meth : Method} {c : Code} (l : Launch) {b L : Nat} {xs : Nat → Int32} (hL : L ≤ 2560) (C0 : lw_At p s m meth c b L xs) {D : va_G} {cs ad ad2 : Nat → Nat} (hK : kk D cs (fun i => ad (22 + i)) (lw_AL s) s) (hrw : ∀ q, lw_RM cs ad2 q → lw_AL s q) {σ : xS} {μ : rf_M} (hJ : JI 0 σ μ) {H : Heap} {locs : List Loc} {ls : Array Slot} (hW : lw_Wd s D cs ad ad2 (σ, μ) H) (hS : va_S (lw_AL s) s.heap H locs) (hl : lv_has ls 4 [(3, .int 0), (2, .ref (ad2 39)), (1, .ref (ad 0)), (0, .ref b)]) : W p l e room_1 s m #[Value.ref b] below meth c H locs 1000 220000 (lw_Z below #[Value.ref b] s) (F0 m 18 ls []) := by
  obtain ⟨hx, hb, hr, hml, hown, hts, hX, hbl, hlocks, hgv⟩ := id C0
  have htb : ∀ w ∈ tb, w.before #[Value.ref b] s = true := fun w hw => hts w (List.mem_filter.mp hw).1
  have F : CallFix p m c cL_law 4 s #[Value.ref b] tb RL := ⟨hx, hb, hml, hown, htb⟩
  have hKX : kk D cs (fun i => ad (22 + i)) (lw_AX s cs ad2) s := kk_nar hK (fun q h => h.1)
  have hw := law_loop (L := L) (xs := xs) (ret := fun r _ => r = some (.inl (nI 1))) hL (fun _ => rfl) (0, σ, μ, 599000, 7082250) ⟨by dsimp only; omega, hJ, by dsimp only; omega, by dsimp only; omega⟩
  have key := hw (mm_R p l e room_1 s m #[Value.ref b] below meth c 4 (lw_Wd s D cs ad ad2) (lw_rho ad ad2 b) (lw_AL s) (lw_Z below #[Value.ref b] s)) (fun z hz => mm_stepQ (rk := 2) (cd := cd_law) (hk := lw_hk L xs) (sp := sp_law) (ret := fun r _ => r = some (.inl (nI 1))) (cc := cL_law) (nL := 4) hx hb (mm_chk3 cd_law_ck).1 (mm_chk3 cd_law_ck).2.1 (Or.inr (mm_chk3 cd_law_ck).2.2) (Or.inr rfl) (fun pc v x _ hm hd H locs cells slots ls hW hS hc hs => ?_) (fun _ _ h => by cases h) (lw_HS F rfl hX hbl) (lw_CS l F hK hKX hrw) z hz)
  · have hLL : mm_L (lw_rho ad ad2 b) ls (lL (nI (5 * 0))) := by
      refine ⟨hl.1, hl.2.1, fun i v hv => ?_⟩
      match i, hv with
      | 0, hv => cases hv; exact hl.2.2 (0, .ref b) (by simp)
      | 1, hv => cases hv; exact hl.2.2 (1, .ref (ad 0)) (by simp)
      | 2, hv => cases hv; exact hl.2.2 (2, .ref (ad2 39)) (by simp)
      | 3, hv => cases hv; exact hl.2.2 (3, .int 0) (by simp)
      | n + 4, hv => cases hv
    exact key H locs 1000 220000 ls hW hS hLL rfl (show 1000 + 599000 ≤ 600000 by omega) (show 220000 + 7082250 ≤ 7302250 by omega)
  · have hv : v = nI 1 := Sum.inl.inj (Option.some.inj hm)
    subst hv
    refine va_forget (fun q hq => hS.2.2 q hq) ?_
    refine W.widen (k := 600000) (n := 7302250) hc hs ?_
    exact lw_ret hx hb hr hlocks hd
set_option maxHeartbeats 4000000 in
set_option maxRecDepth 100000 in
/-- from the entry, for every script of at most 2560 ints, the law comes to its end with true -/
theorem whole_start {p : Program} {e : Env} {s : State} {m : MethodId} {below : List Frame} {meth : Method} {c : Code} (l : Launch) (hflags : l.flags = flags0) {b L : Nat} {xs : Nat → Int32} (hL : L ≤ 2560) (C0 : lw_At p s m meth c b L xs) : W p l e room_1 s m #[Value.ref b] below meth c s.heap [] 0 0 (lw_Z below #[Value.ref b] s) (entryFrame m ([Value.ref b] : List Value).toArray 4) := by
  obtain ⟨hx, hb, hr, hml, hown, hts, hX, hbl, hlocks, hgv⟩ := id C0
  have htb : ∀ w ∈ tb, w.before #[Value.ref b] s = true := fun w hw => hts w (List.mem_filter.mp hw).1
  have F : CallFix p m c cL_law 4 s #[Value.ref b] tb RL := ⟨hx, hb, hml, hown, htb⟩
  obtain ⟨D, cs, tL, tG, hK⟩ := lw_kk hts hgv
  have hAL : ∀ q : Nat, s.heap.size ≤ q → lw_AL s q := fun _ h => h
  have hS : va_S (lw_AL s) s.heap s.heap [] := va_S.rf
  have hl := lv_entry ([.ref b]) (n := 4) (Nat.le_of_ble_eq_true rfl)
  rw [lg_entry_eq]
  generalize (lg_sl ([.ref b]) ++ List.replicate (4 - (lg_sl ([.ref b])).length) Slot.unset).toArray = ls at hl ⊢
  have hl : lv_has ls 4 [(0, .ref b)] := hl
  -- the class's object
  refine vx_new (D := D) (cl := classes) (tys := tys cs) (ci := 6) (fs := [.null, .null, .null, .int 0, .null, .null, .null, .null, .null, .null, .null]) (C := RX6) (T := TX6) (N := 11) (own := RL) hx hb htb in_X6 tyX6 tyX6_ok hown (htb _ wd_58) (htb _ wd_59) (htb _ wd_49) hK.1 rfl (fun j hj => by rcases (show j = 0 ∨ j = 1 ∨ j = 2 ∨ j = 3 ∨ j = 4 ∨ j = 5 ∨ j = 6 ∨ j = 7 ∨ j = 8 ∨ j = 9 ∨ j = 10 by omega) with rfl | rfl | rfl | rfl | rfl | rfl | rfl | rfl | rfl | rfl | rfl <;> rfl) (Nat.le_of_ble_eq_true rfl) (Nat.le_of_ble_eq_true rfl) dL_law_0 (fun H1 ha hz hq => ?_)
  have hX1 := x_X_nO (k := s.heap.size) (o' := (6, fun _ => 0, fun _ => none)) lw_s0_X (lw_s0_low (x_h24 _)) rfl
  have he1 : x_e cs (lw_ad tL tG) (va_up lw_s0.1 (s.heap.size + 24) (some (6, fun _ => 0, fun _ => none)), lw_s0.2) (s.heap.size + 24) = some (.inr (6, x_fs (lw_ad tL tG) (6, fun _ => 0, fun _ => none))) := x_eO (o := (6, fun _ => 0, fun _ => none)) (x_h24 _) (va_up_self _ _ _)
  have hw1 : x_W D cs (lw_ad tL tG) (lw_AL s) (va_up lw_s0.1 (s.heap.size + 24) (some (6, fun _ => 0, fun _ => none)), lw_s0.2) H1 := x_W_new (H := s.heap) lw_s0_W he1 (fun j hj => x_eq_O hj) (fun j hj => va_up_ne _ _ hj) hX1 ha hq (hAL _ (Nat.le_refl _))
  have hS1 : va_S (lw_AL s) s.heap H1 [] := ⟨by omega, fun q h1 _ => hq q h1, fun q h => by simp at h⟩
  have hrun := i_X6 (σ := (va_up lw_s0.1 (s.heap.size + 24) (some (6, fun _ => 0, fun _ => none)), lw_s0.2)) (t := s.heap.size + 24) (by omega) (va_up_self _ _ _) (fun k hk => ⟨(va_up_ne _ _ (by omega)).trans rfl, lw_s0_low ⟨by omega, by omega⟩, rfl⟩) ⟨rwL, rwG, rfl, rfl, rfl, rfl, rfl, rfl, rfl, rfl⟩ (fun q _ => rfl)
  refine lv_dup hx hb dL_law_3 rfl ?_
  have run := va_runI (e := e) (meth := meth) (H := H1) (R := room_1) (below := below) (locs := []) (cells := 0 + 1) (slots := 0 + 11) (As := []) (b := s.heap.size) (rest := [.ref s.heap.size]) (g := F0 m 4 ls [.ref s.heap.size, .ref s.heap.size]) F (so_X6_init l D cs (lw_ad tL tG) (lw_AL s) _ _ _ _ _ hrun) (cwI 0 F.2.2.2.2 (tb_goodIn wd_62 (fun _ h => h)) rfl rfl rfl (htb _ wd_49) (htb _ wd_60) (htb _ wd_61) rfl ⟨by decide, by decide, rfl⟩ ⟨by decide, by decide⟩) ⟨mm_blind (kk_KW D cs _ (lw_AL s)), fun U hU hWm => ⟨by show _ = _; rw [List.map_cons, List.map_nil, show mE (x_rho (lw_ad tL tG)) (.inr (some (s.heap.size + 24))) = .ref s.heap.size from by rw [mE, x_rho_new]], (kk_KW D cs _ (lw_AL s)).1 s U hWm (va_S_F hS1 hU) hK, by rw [hU]; exact hw1, by rw [hU]; exact fun q h => hAL q (by omega)⟩⟩ rfl rfl hl.1 rfl (lv_room (Nat.le_of_ble_eq_true rfl)) dL_law_4 ⟨by decide, by decide⟩
  refine lw_go run (fun v st₀ t H2 Lc h0 ht hLc hQa => ?_)
  obtain ⟨⟨r, σ2, hv, hp, hw2⟩, hz2, hk2⟩ := hQa
  obtain ⟨rfl, LS, sl, hcq, hhd⟩ := hp
  cases hv
  rw [h0, ht] at hz2 hk2
  rw [ht] at hw2
  have hS2 : va_S (lw_AL s) s.heap H2 ([] ++ Lc) := ⟨Nat.le_trans hS1.1 hz2, fun q h1 h2 => (hk2 q (Nat.lt_of_lt_of_le h1 hS1.1) h2).trans (hS1.2.1 q h1 h2), fun q hq => hLc q hq⟩
  obtain ⟨c24, cnd, c8, csn⟩ := CQ_gl hcq
  have hXS := rl_XS (ad := lw_ad tL tG) hcq hw2.2.2
  have hw3 := rl_W c24 cnd hw2
  have had : rl_ad LS (lw_ad tL tG) 0 = s.heap.size := by
    cases LS with
    | nil => cases hhd
    | cons t0 r =>
      cases hhd
      show s.heap.size + 24 - 24 = s.heap.size
      omega
  have hsa : (fun i => rl_ad LS (lw_ad tL tG) (22 + i)) = fun i => lw_ad tL tG (22 + i) := by
    funext i
    unfold rl_ad
    rw [if_neg (by omega)]
  rw [← hsa] at hK
  generalize rl_ad LS (lw_ad tL tG) = ad at hw3 had hK
  generalize rl_s LS (rl_phi LS (lw_ad tL tG)) σ2 = σ3 at hw3 hXS
  have hw4 : x_W D cs ad (fun q => s.heap.size ≤ q ∧ q < H2.size) σ3 H2 := x_W_nar hw3 (fun q h1 h2 => ⟨h2, h1⟩)
  generalize [] ++ Lc = locs at hS2
  rw [← had]
  refine W.widen (k := 50) (n := 1000) (by omega) (by omega) ?_
  refine lv_astore_n (lv' := [(1, .ref (ad 0)), (0, .ref b)]) hx hb dL_law_7 rfl hl (by decide) rfl (fun ls hl => ?_)
  -- the reference's
  refine vx_new (D := D) (cl := classes) (tys := tys cs) (ci := 7) (fs := rc_fs) (C := RX7) (T := TX7) (N := 39) (own := RL) hx hb htb in_X7 tyX7 tyX7_ok hown (htb _ wd_587) (htb _ wd_588) (htb _ wd_56) hK.1 rfl (by decide +kernel) (Nat.le_of_ble_eq_true rfl) (Nat.le_of_ble_eq_true rfl) dL_law_8 (fun H3 ha3 hz3 hq3 => ?_)
  have hS3 : va_S (lw_AL s) s.heap H3 locs := ⟨by have := hS2.1; omega, fun q h1 h2 => (hq3 q (Nat.lt_of_lt_of_le h1 hS2.1)).trans (hS2.2.1 q h1 h2), hS2.2.2⟩
  have hAM : ∀ q, (fun q => H2.size ≤ q) q → lw_AL s q := fun q h => Nat.le_trans hS2.1 h
  have hKM := kk_nar hK hAM
  refine lv_dup hx hb dL_law_11 rfl ?_
  have run := va_runI (e := e) (meth := meth) (H := H3) (R := room_1) (below := below) (locs := locs) (cells := 50 + 1) (slots := 1000 + 39) (As := []) (b := H2.size) (rest := [.ref H2.size]) (g := F0 m 12 ls [.ref H2.size, .ref H2.size]) F (c_X7_init l D cs (fun i => ad (22 + i)) (fun q => H2.size ≤ q) H2.size) (cwI 0 F.2.2.2.2 (tb_goodIn wd_591 (fun _ h => h)) rfl rfl rfl (htb _ wd_56) (htb _ wd_589) (htb _ wd_590) rfl ⟨by decide, by decide, rfl⟩ ⟨by decide, by decide⟩) ⟨fun a U g mk q => ⟨q.1, (kk_KW D cs _ _).2 U (U.calling g mk a) rfl rfl q.2.1, q.2.2⟩, fun U hU hWm => ⟨rfl, (kk_KW D cs _ _).1 s U hWm (va_S_F hS3 hU) hKM, by rw [hU]; exact vx_P1 ha3, Nat.le_refl _, by rw [hU]; exact fun q h => (show H2.size ≤ q by omega)⟩⟩ rfl rfl hl.1 rfl (lv_room (Nat.le_of_ble_eq_true rfl)) dL_law_12 ⟨by decide, by decide⟩
  refine lw_go run (fun v st₀ t H4 Lc h0 ht hLc hQa => ?_)
  obtain ⟨⟨hv, ad2, μ, h39, hw5, hM⟩, hz4, hk4⟩ := hQa
  cases hv
  rw [h0, ht] at hz4 hk4
  rw [ht] at hw5
  have hS4 : va_S (lw_AL s) s.heap H4 (locs ++ Lc) := ⟨Nat.le_trans hS3.1 hz4, fun q h1 h2 => (hk4 q (Nat.lt_of_lt_of_le h1 hS3.1) (fun z => h2 (hAM q z))).trans (hS3.2.1 q h1 h2), fun q hq => (List.mem_append.mp hq).elim (hS3.2.2 q) (fun z => hAM _ (hLc q z))⟩
  have hrm : ∀ q, lw_RM cs ad2 q → H2.size ≤ q := fun q h => (rf_get hw5 h).2
  have hw6 : x_W D cs ad (lw_AX s cs ad2) σ3 H4 := by
    refine x_W_nar (x_W_keep hw4 (H1 := H4) (fun q h1 h2 => ?_)) (fun q _ h => ⟨h.1, fun z => by have := hrm q z; omega⟩)
    exact (hk4 q (by omega) (fun z => by have : H2.size ≤ q := z; omega)).trans (hq3 q h1)
  generalize locs ++ Lc = locs at hS4
  rw [← h39]
  refine W.widen (k := 1000) (n := 220000) (by omega) (by omega) ?_
  refine lv_astore_n (lv' := [(2, .ref (ad2 39)), (1, .ref (ad 0)), (0, .ref b)]) hx hb dL_law_15 rfl hl (by decide) rfl (fun ls hl => ?_)
  refine lv_iconst (v := 0) hx hb dL_law_16 (by decide) ?_
  refine lv_istore_n (lv' := [(3, .int 0), (2, .ref (ad2 39)), (1, .ref (ad 0)), (0, .ref b)]) hx hb dL_law_17 rfl hl (by decide) rfl (fun ls hl => ?_)
  exact lw_key l hL C0 hK (fun q h => hAM q (hrm q h)) (JI_start hXS csn c8 hM) ⟨hw6, rf_RM hw5⟩ hS4 hl
