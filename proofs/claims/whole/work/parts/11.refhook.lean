theorem rf_pos {cs ad : Nat → Nat} {μ : rf_M} {f : Nat} (h : rf_ty f = 1) : ∃ q0 : Nat, (rf_ws cs ad μ)[q0]? = some (ad f, .inl (cs 0, rf_len f, .inl (μ.2 f))) ∧ ∀ (i : Nat) (v : Int32), (rf_ws cs ad μ).set q0 (ad f, .inl (cs 0, rf_len f, .inl (upd (μ.2 f) i v))) = rf_ws cs ad (μ.1, rf_up μ.2 f i v) := by
  unfold rf_ty at h
  split at h
  all_goals (try (exact absurd h (by decide)))
  · exact ⟨1, rfl, fun _ _ => rfl⟩
  · exact ⟨2, rfl, fun _ _ => rfl⟩
  · exact ⟨3, rfl, fun _ _ => rfl⟩
  · exact ⟨4, rfl, fun _ _ => rfl⟩
  · exact ⟨6, rfl, fun _ _ => rfl⟩
  · exact ⟨7, rfl, fun _ _ => rfl⟩
  · exact ⟨8, rfl, fun _ _ => rfl⟩
  · exact ⟨10, rfl, fun _ _ => rfl⟩
  · exact ⟨11, rfl, fun _ _ => rfl⟩
  · exact ⟨12, rfl, fun _ _ => rfl⟩
  · exact ⟨13, rfl, fun _ _ => rfl⟩
  · exact ⟨14, rfl, fun _ _ => rfl⟩
  · exact ⟨15, rfl, fun _ _ => rfl⟩
  · exact ⟨16, rfl, fun _ _ => rfl⟩
  · exact ⟨17, rfl, fun _ _ => rfl⟩
  · exact ⟨18, rfl, fun _ _ => rfl⟩
  · exact ⟨19, rfl, fun _ _ => rfl⟩
  · exact ⟨21, rfl, fun _ _ => rfl⟩
  · exact ⟨22, rfl, fun _ _ => rfl⟩
  · exact ⟨23, rfl, fun _ _ => rfl⟩
  · exact ⟨24, rfl, fun _ _ => rfl⟩
  · exact ⟨25, rfl, fun _ _ => rfl⟩
theorem rf_posZ {cs ad : Nat → Nat} {μ : rf_M} {f : Nat} (h : rf_ty f = 2) : ∃ q0 : Nat, (rf_ws cs ad μ)[q0]? = some (ad f, .inl (cs 1, rf_len f, .inl (μ.2 f))) ∧ ∀ (i : Nat) (v : Int32), (rf_ws cs ad μ).set q0 (ad f, .inl (cs 1, rf_len f, .inl (upd (μ.2 f) i v))) = rf_ws cs ad (μ.1, rf_up μ.2 f i v) := by
  unfold rf_ty at h
  split at h
  all_goals (try (exact absurd h (by decide)))
  · exact ⟨5, rfl, fun _ _ => rfl⟩
  · exact ⟨9, rfl, fun _ _ => rfl⟩
  · exact ⟨20, rfl, fun _ _ => rfl⟩
section RFS
variable {p : Program} {l : Launch} {e : Env} {R : Room} {s0 : State} {m : MethodId} {args : Array Value} {below : List Frame} {meth : Method} {c : Code} {cc : ByteArray} {nL : Nat} {D : va_G} {cs ad : Nat → Nat} {A : Nat → Prop} {Q : State → Prop}
set_option maxHeartbeats 4000000 in
set_option maxRecDepth 20000 in
theorem rf_HS (F : CallFix p m c cc nL s0 args tb RX7) {sa : Nat → Nat} (hK : kk D cs sa A s0) : mm_HS p l e R s0 m args below meth c cc (rf_W D cs ad A) ad A rf_hk Q := by
  obtain ⟨hx, hb, hml, hown, hts⟩ := F
  intro ins len pc st s a b k h hd hn H locs cells slots ls hW hS hc hs kk
  unfold rf_hk at h
  split at h
  all_goals (try exact h.elim)
  -- getfield
  · obtain rfl : len = 3 := by simpa [mm_okl] using hn
    split at h <;> (try exact h.elim)
    rename_i st'
    split at h <;> (try exact h.elim)
    rename_i f hf
    unfold rf_fm at hf
    split at hf
    · cases hf; exact va_get (D := D) (ci := 7) (v := .ref (ad 0)) (C := RX7) (T := TX7) (N := 39) (own := RX7) (ref := RX7) hx hb hts in_X7 hown hK.1 hW.1 0 rfl rfl 0 (by decide) (hts _ wd_606) (fun _ h9 => h9) rfl hd (kk _ _ _ _ _ _ _ _ h hW hS hc hs)
    · cases hf; exact va_get (D := D) (ci := 7) (v := .ref (ad 1)) (C := RX7) (T := TX7) (N := 39) (own := RX7) (ref := RX7) hx hb hts in_X7 hown hK.1 hW.1 0 rfl rfl 1 (by decide) (hts _ wd_607) (fun _ h9 => h9) rfl hd (kk _ _ _ _ _ _ _ _ h hW hS hc hs)
    · cases hf; exact va_get (D := D) (ci := 7) (v := .ref (ad 2)) (C := RX7) (T := TX7) (N := 39) (own := RX7) (ref := RX7) hx hb hts in_X7 hown hK.1 hW.1 0 rfl rfl 2 (by decide) (hts _ wd_608) (fun _ h9 => h9) rfl hd (kk _ _ _ _ _ _ _ _ h hW hS hc hs)
    · cases hf; exact va_get (D := D) (ci := 7) (v := .ref (ad 3)) (C := RX7) (T := TX7) (N := 39) (own := RX7) (ref := RX7) hx hb hts in_X7 hown hK.1 hW.1 0 rfl rfl 3 (by decide) (hts _ wd_609) (fun _ h9 => h9) rfl hd (kk _ _ _ _ _ _ _ _ h hW hS hc hs)
    · cases hf; exact va_get (D := D) (ci := 7) (v := .ref (ad 4)) (C := RX7) (T := TX7) (N := 39) (own := RX7) (ref := RX7) hx hb hts in_X7 hown hK.1 hW.1 0 rfl rfl 4 (by decide) (hts _ wd_610) (fun _ h9 => h9) rfl hd (kk _ _ _ _ _ _ _ _ h hW hS hc hs)
    · cases hf; exact va_get (D := D) (ci := 7) (v := .int (s.1 5)) (C := RX7) (T := TX7) (N := 39) (own := RX7) (ref := RX7) hx hb hts in_X7 hown hK.1 hW.1 0 rfl rfl 5 (by decide) (hts _ wd_611) (fun _ h9 => h9) rfl hd (kk _ _ _ _ _ _ _ _ h hW hS hc hs)
    · cases hf; exact va_get (D := D) (ci := 7) (v := .ref (ad 7)) (C := RX7) (T := TX7) (N := 39) (own := RX7) (ref := RX7) hx hb hts in_X7 hown hK.1 hW.1 0 rfl rfl 7 (by decide) (hts _ wd_613) (fun _ h9 => h9) rfl hd (kk _ _ _ _ _ _ _ _ h hW hS hc hs)
    · cases hf; exact va_get (D := D) (ci := 7) (v := .ref (ad 9)) (C := RX7) (T := TX7) (N := 39) (own := RX7) (ref := RX7) hx hb hts in_X7 hown hK.1 hW.1 0 rfl rfl 9 (by decide) (hts _ wd_615) (fun _ h9 => h9) rfl hd (kk _ _ _ _ _ _ _ _ h hW hS hc hs)
    · cases hf; exact va_get (D := D) (ci := 7) (v := .ref (ad 10)) (C := RX7) (T := TX7) (N := 39) (own := RX7) (ref := RX7) hx hb hts in_X7 hown hK.1 hW.1 0 rfl rfl 10 (by decide) (hts _ wd_616) (fun _ h9 => h9) rfl hd (kk _ _ _ _ _ _ _ _ h hW hS hc hs)
    · cases hf; exact va_get (D := D) (ci := 7) (v := .ref (ad 11)) (C := RX7) (T := TX7) (N := 39) (own := RX7) (ref := RX7) hx hb hts in_X7 hown hK.1 hW.1 0 rfl rfl 11 (by decide) (hts _ wd_617) (fun _ h9 => h9) rfl hd (kk _ _ _ _ _ _ _ _ h hW hS hc hs)
    · cases hf; exact va_get (D := D) (ci := 7) (v := .ref (ad 12)) (C := RX7) (T := TX7) (N := 39) (own := RX7) (ref := RX7) hx hb hts in_X7 hown hK.1 hW.1 0 rfl rfl 12 (by decide) (hts _ wd_618) (fun _ h9 => h9) rfl hd (kk _ _ _ _ _ _ _ _ h hW hS hc hs)
    · cases hf; exact va_get (D := D) (ci := 7) (v := .ref (ad 13)) (C := RX7) (T := TX7) (N := 39) (own := RX7) (ref := RX7) hx hb hts in_X7 hown hK.1 hW.1 0 rfl rfl 13 (by decide) (hts _ wd_619) (fun _ h9 => h9) rfl hd (kk _ _ _ _ _ _ _ _ h hW hS hc hs)
    · cases hf; exact va_get (D := D) (ci := 7) (v := .ref (ad 16)) (C := RX7) (T := TX7) (N := 39) (own := RX7) (ref := RX7) hx hb hts in_X7 hown hK.1 hW.1 0 rfl rfl 16 (by decide) (hts _ wd_622) (fun _ h9 => h9) rfl hd (kk _ _ _ _ _ _ _ _ h hW hS hc hs)
    · cases hf; exact va_get (D := D) (ci := 7) (v := .int (s.1 18)) (C := RX7) (T := TX7) (N := 39) (own := RX7) (ref := RX7) hx hb hts in_X7 hown hK.1 hW.1 0 rfl rfl 18 (by decide) (hts _ wd_624) (fun _ h9 => h9) rfl hd (kk _ _ _ _ _ _ _ _ h hW hS hc hs)
    · cases hf; exact va_get (D := D) (ci := 7) (v := .int (s.1 19)) (C := RX7) (T := TX7) (N := 39) (own := RX7) (ref := RX7) hx hb hts in_X7 hown hK.1 hW.1 0 rfl rfl 19 (by decide) (hts _ wd_625) (fun _ h9 => h9) rfl hd (kk _ _ _ _ _ _ _ _ h hW hS hc hs)
    · cases hf; exact va_get (D := D) (ci := 7) (v := .int (s.1 20)) (C := RX7) (T := TX7) (N := 39) (own := RX7) (ref := RX7) hx hb hts in_X7 hown hK.1 hW.1 0 rfl rfl 20 (by decide) (hts _ wd_626) (fun _ h9 => h9) rfl hd (kk _ _ _ _ _ _ _ _ h hW hS hc hs)
    · cases hf; exact va_get (D := D) (ci := 7) (v := .ref (ad 21)) (C := RX7) (T := TX7) (N := 39) (own := RX7) (ref := RX7) hx hb hts in_X7 hown hK.1 hW.1 0 rfl rfl 21 (by decide) (hts _ wd_627) (fun _ h9 => h9) rfl hd (kk _ _ _ _ _ _ _ _ h hW hS hc hs)
    · cases hf; exact va_get (D := D) (ci := 7) (v := .ref (ad 22)) (C := RX7) (T := TX7) (N := 39) (own := RX7) (ref := RX7) hx hb hts in_X7 hown hK.1 hW.1 0 rfl rfl 22 (by decide) (hts _ wd_628) (fun _ h9 => h9) rfl hd (kk _ _ _ _ _ _ _ _ h hW hS hc hs)
    · cases hf; exact va_get (D := D) (ci := 7) (v := .ref (ad 23)) (C := RX7) (T := TX7) (N := 39) (own := RX7) (ref := RX7) hx hb hts in_X7 hown hK.1 hW.1 0 rfl rfl 23 (by decide) (hts _ wd_629) (fun _ h9 => h9) rfl hd (kk _ _ _ _ _ _ _ _ h hW hS hc hs)
    · cases hf; exact va_get (D := D) (ci := 7) (v := .ref (ad 25)) (C := RX7) (T := TX7) (N := 39) (own := RX7) (ref := RX7) hx hb hts in_X7 hown hK.1 hW.1 0 rfl rfl 25 (by decide) (hts _ wd_631) (fun _ h9 => h9) rfl hd (kk _ _ _ _ _ _ _ _ h hW hS hc hs)
    · cases hf; exact va_get (D := D) (ci := 7) (v := .ref (ad 26)) (C := RX7) (T := TX7) (N := 39) (own := RX7) (ref := RX7) hx hb hts in_X7 hown hK.1 hW.1 0 rfl rfl 26 (by decide) (hts _ wd_632) (fun _ h9 => h9) rfl hd (kk _ _ _ _ _ _ _ _ h hW hS hc hs)
    · cases hf; exact va_get (D := D) (ci := 7) (v := .ref (ad 27)) (C := RX7) (T := TX7) (N := 39) (own := RX7) (ref := RX7) hx hb hts in_X7 hown hK.1 hW.1 0 rfl rfl 27 (by decide) (hts _ wd_633) (fun _ h9 => h9) rfl hd (kk _ _ _ _ _ _ _ _ h hW hS hc hs)
    · cases hf; exact va_get (D := D) (ci := 7) (v := .ref (ad 28)) (C := RX7) (T := TX7) (N := 39) (own := RX7) (ref := RX7) hx hb hts in_X7 hown hK.1 hW.1 0 rfl rfl 28 (by decide) (hts _ wd_634) (fun _ h9 => h9) rfl hd (kk _ _ _ _ _ _ _ _ h hW hS hc hs)
    · cases hf; exact va_get (D := D) (ci := 7) (v := .ref (ad 29)) (C := RX7) (T := TX7) (N := 39) (own := RX7) (ref := RX7) hx hb hts in_X7 hown hK.1 hW.1 0 rfl rfl 29 (by decide) (hts _ wd_635) (fun _ h9 => h9) rfl hd (kk _ _ _ _ _ _ _ _ h hW hS hc hs)
    · cases hf; exact va_get (D := D) (ci := 7) (v := .ref (ad 30)) (C := RX7) (T := TX7) (N := 39) (own := RX7) (ref := RX7) hx hb hts in_X7 hown hK.1 hW.1 0 rfl rfl 30 (by decide) (hts _ wd_636) (fun _ h9 => h9) rfl hd (kk _ _ _ _ _ _ _ _ h hW hS hc hs)
    · cases hf; exact va_get (D := D) (ci := 7) (v := .ref (ad 32)) (C := RX7) (T := TX7) (N := 39) (own := RX7) (ref := RX7) hx hb hts in_X7 hown hK.1 hW.1 0 rfl rfl 32 (by decide) (hts _ wd_638) (fun _ h9 => h9) rfl hd (kk _ _ _ _ _ _ _ _ h hW hS hc hs)
    · cases hf; exact va_get (D := D) (ci := 7) (v := .ref (ad 33)) (C := RX7) (T := TX7) (N := 39) (own := RX7) (ref := RX7) hx hb hts in_X7 hown hK.1 hW.1 0 rfl rfl 33 (by decide) (hts _ wd_639) (fun _ h9 => h9) rfl hd (kk _ _ _ _ _ _ _ _ h hW hS hc hs)
    · cases hf; exact va_get (D := D) (ci := 7) (v := .ref (ad 34)) (C := RX7) (T := TX7) (N := 39) (own := RX7) (ref := RX7) hx hb hts in_X7 hown hK.1 hW.1 0 rfl rfl 34 (by decide) (hts _ wd_640) (fun _ h9 => h9) rfl hd (kk _ _ _ _ _ _ _ _ h hW hS hc hs)
    · cases hf; exact va_get (D := D) (ci := 7) (v := .ref (ad 36)) (C := RX7) (T := TX7) (N := 39) (own := RX7) (ref := RX7) hx hb hts in_X7 hown hK.1 hW.1 0 rfl rfl 36 (by decide) (hts _ wd_642) (fun _ h9 => h9) rfl hd (kk _ _ _ _ _ _ _ _ h hW hS hc hs)
    · cases hf; exact va_get (D := D) (ci := 7) (v := .int (s.1 6)) (C := RX7) (T := TX7) (N := 39) (own := RX7) (ref := RX7) hx hb hts in_X7 hown hK.1 hW.1 0 rfl rfl 6 (by decide) (hts _ wd_612) (fun _ h9 => h9) rfl hd (kk _ _ _ _ _ _ _ _ h hW hS hc hs)
    · cases hf; exact va_get (D := D) (ci := 7) (v := .int (s.1 8)) (C := RX7) (T := TX7) (N := 39) (own := RX7) (ref := RX7) hx hb hts in_X7 hown hK.1 hW.1 0 rfl rfl 8 (by decide) (hts _ wd_614) (fun _ h9 => h9) rfl hd (kk _ _ _ _ _ _ _ _ h hW hS hc hs)
    · cases hf; exact va_get (D := D) (ci := 7) (v := .int (s.1 14)) (C := RX7) (T := TX7) (N := 39) (own := RX7) (ref := RX7) hx hb hts in_X7 hown hK.1 hW.1 0 rfl rfl 14 (by decide) (hts _ wd_620) (fun _ h9 => h9) rfl hd (kk _ _ _ _ _ _ _ _ h hW hS hc hs)
    · cases hf; exact va_get (D := D) (ci := 7) (v := .int (s.1 24)) (C := RX7) (T := TX7) (N := 39) (own := RX7) (ref := RX7) hx hb hts in_X7 hown hK.1 hW.1 0 rfl rfl 24 (by decide) (hts _ wd_630) (fun _ h9 => h9) rfl hd (kk _ _ _ _ _ _ _ _ h hW hS hc hs)
    · cases hf; exact va_get (D := D) (ci := 7) (v := .int (s.1 31)) (C := RX7) (T := TX7) (N := 39) (own := RX7) (ref := RX7) hx hb hts in_X7 hown hK.1 hW.1 0 rfl rfl 31 (by decide) (hts _ wd_637) (fun _ h9 => h9) rfl hd (kk _ _ _ _ _ _ _ _ h hW hS hc hs)
    · cases hf; exact va_get (D := D) (ci := 7) (v := .int (s.1 35)) (C := RX7) (T := TX7) (N := 39) (own := RX7) (ref := RX7) hx hb hts in_X7 hown hK.1 hW.1 0 rfl rfl 35 (by decide) (hts _ wd_641) (fun _ h9 => h9) rfl hd (kk _ _ _ _ _ _ _ _ h hW hS hc hs)
    · cases hf; exact va_get (D := D) (ci := 7) (v := .int (s.1 17)) (C := RX7) (T := TX7) (N := 39) (own := RX7) (ref := RX7) hx hb hts in_X7 hown hK.1 hW.1 0 rfl rfl 17 (by decide) (hts _ wd_623) (fun _ h9 => h9) rfl hd (kk _ _ _ _ _ _ _ _ h hW hS hc hs)
    · cases hf; exact va_get (D := D) (ci := 7) (v := .int (s.1 37)) (C := RX7) (T := TX7) (N := 39) (own := RX7) (ref := RX7) hx hb hts in_X7 hown hK.1 hW.1 0 rfl rfl 37 (by decide) (hts _ wd_643) (fun _ h9 => h9) rfl hd (kk _ _ _ _ _ _ _ _ h hW hS hc hs)
    · cases hf; exact va_get (D := D) (ci := 7) (v := .int (s.1 38)) (C := RX7) (T := TX7) (N := 39) (own := RX7) (ref := RX7) hx hb hts in_X7 hown hK.1 hW.1 0 rfl rfl 38 (by decide) (hts _ wd_644) (fun _ h9 => h9) rfl hd (kk _ _ _ _ _ _ _ _ h hW hS hc hs)
    · cases hf; exact va_get (D := D) (ci := 7) (v := .int (s.1 15)) (C := RX7) (T := TX7) (N := 39) (own := RX7) (ref := RX7) hx hb hts in_X7 hown hK.1 hW.1 0 rfl rfl 15 (by decide) (hts _ wd_621) (fun _ h9 => h9) rfl hd (kk _ _ _ _ _ _ _ _ h hW hS hc hs)
    · cases hf
  -- putfield
  · obtain rfl : len = 3 := by simpa [mm_okl] using hn
    split at h <;> (try exact h.elim)
    rename_i v st'
    split at h <;> (try exact h.elim)
    rename_i f hf
    unfold rf_fm at hf
    split at hf
    · cases hf; exact h.elim
    · cases hf; exact h.elim
    · cases hf; exact h.elim
    · cases hf; exact h.elim
    · cases hf; exact h.elim
    · cases hf; exact va_put (D := D) (ci := 7) (v := .int v) (ty := .int) (C := RX7) (T := TX7) (N := 39) (own := RX7) (ref := RX7) hx hb hts in_X7 tyX7 tyX7_ok nmX7 hown hK.1 hW.1 hW.2 hS 0 rfl rfl 5 (by decide) (hts _ wd_611) (fun _ h9 => h9) rfl rfl rfl rfl (Nat.le_of_ble_eq_true rfl) hd (fun H1 locs1 hP hD hS1 => kk _ _ _ _ _ _ _ _ h ⟨hP, hD⟩ hS1 hc hs)
    · cases hf; exact h.elim
    · cases hf; exact h.elim
    · cases hf; exact h.elim
    · cases hf; exact h.elim
    · cases hf; exact h.elim
    · cases hf; exact h.elim
    · cases hf; exact h.elim
    · cases hf; exact va_put (D := D) (ci := 7) (v := .int v) (ty := .int) (C := RX7) (T := TX7) (N := 39) (own := RX7) (ref := RX7) hx hb hts in_X7 tyX7 tyX7_ok nmX7 hown hK.1 hW.1 hW.2 hS 0 rfl rfl 18 (by decide) (hts _ wd_624) (fun _ h9 => h9) rfl rfl rfl rfl (Nat.le_of_ble_eq_true rfl) hd (fun H1 locs1 hP hD hS1 => kk _ _ _ _ _ _ _ _ h ⟨hP, hD⟩ hS1 hc hs)
    · cases hf; exact va_put (D := D) (ci := 7) (v := .int v) (ty := .int) (C := RX7) (T := TX7) (N := 39) (own := RX7) (ref := RX7) hx hb hts in_X7 tyX7 tyX7_ok nmX7 hown hK.1 hW.1 hW.2 hS 0 rfl rfl 19 (by decide) (hts _ wd_625) (fun _ h9 => h9) rfl rfl rfl rfl (Nat.le_of_ble_eq_true rfl) hd (fun H1 locs1 hP hD hS1 => kk _ _ _ _ _ _ _ _ h ⟨hP, hD⟩ hS1 hc hs)
    · cases hf; exact va_put (D := D) (ci := 7) (v := .int v) (ty := .int) (C := RX7) (T := TX7) (N := 39) (own := RX7) (ref := RX7) hx hb hts in_X7 tyX7 tyX7_ok nmX7 hown hK.1 hW.1 hW.2 hS 0 rfl rfl 20 (by decide) (hts _ wd_626) (fun _ h9 => h9) rfl rfl rfl rfl (Nat.le_of_ble_eq_true rfl) hd (fun H1 locs1 hP hD hS1 => kk _ _ _ _ _ _ _ _ h ⟨hP, hD⟩ hS1 hc hs)
    · cases hf; exact h.elim
    · cases hf; exact h.elim
    · cases hf; exact h.elim
    · cases hf; exact h.elim
    · cases hf; exact h.elim
    · cases hf; exact h.elim
    · cases hf; exact h.elim
    · cases hf; exact h.elim
    · cases hf; exact h.elim
    · cases hf; exact h.elim
    · cases hf; exact h.elim
    · cases hf; exact h.elim
    · cases hf; exact h.elim
    · cases hf; exact va_put (D := D) (ci := 7) (v := .int v) (ty := .int) (C := RX7) (T := TX7) (N := 39) (own := RX7) (ref := RX7) hx hb hts in_X7 tyX7 tyX7_ok nmX7 hown hK.1 hW.1 hW.2 hS 0 rfl rfl 6 (by decide) (hts _ wd_612) (fun _ h9 => h9) rfl rfl rfl rfl (Nat.le_of_ble_eq_true rfl) hd (fun H1 locs1 hP hD hS1 => kk _ _ _ _ _ _ _ _ h ⟨hP, hD⟩ hS1 hc hs)
    · cases hf; exact va_put (D := D) (ci := 7) (v := .int v) (ty := .int) (C := RX7) (T := TX7) (N := 39) (own := RX7) (ref := RX7) hx hb hts in_X7 tyX7 tyX7_ok nmX7 hown hK.1 hW.1 hW.2 hS 0 rfl rfl 8 (by decide) (hts _ wd_614) (fun _ h9 => h9) rfl rfl rfl rfl (Nat.le_of_ble_eq_true rfl) hd (fun H1 locs1 hP hD hS1 => kk _ _ _ _ _ _ _ _ h ⟨hP, hD⟩ hS1 hc hs)
    · cases hf; exact va_put (D := D) (ci := 7) (v := .int v) (ty := .int) (C := RX7) (T := TX7) (N := 39) (own := RX7) (ref := RX7) hx hb hts in_X7 tyX7 tyX7_ok nmX7 hown hK.1 hW.1 hW.2 hS 0 rfl rfl 14 (by decide) (hts _ wd_620) (fun _ h9 => h9) rfl rfl rfl rfl (Nat.le_of_ble_eq_true rfl) hd (fun H1 locs1 hP hD hS1 => kk _ _ _ _ _ _ _ _ h ⟨hP, hD⟩ hS1 hc hs)
    · cases hf; exact va_put (D := D) (ci := 7) (v := .int v) (ty := .int) (C := RX7) (T := TX7) (N := 39) (own := RX7) (ref := RX7) hx hb hts in_X7 tyX7 tyX7_ok nmX7 hown hK.1 hW.1 hW.2 hS 0 rfl rfl 24 (by decide) (hts _ wd_630) (fun _ h9 => h9) rfl rfl rfl rfl (Nat.le_of_ble_eq_true rfl) hd (fun H1 locs1 hP hD hS1 => kk _ _ _ _ _ _ _ _ h ⟨hP, hD⟩ hS1 hc hs)
    · cases hf; exact va_put (D := D) (ci := 7) (v := .int v) (ty := .int) (C := RX7) (T := TX7) (N := 39) (own := RX7) (ref := RX7) hx hb hts in_X7 tyX7 tyX7_ok nmX7 hown hK.1 hW.1 hW.2 hS 0 rfl rfl 31 (by decide) (hts _ wd_637) (fun _ h9 => h9) rfl rfl rfl rfl (Nat.le_of_ble_eq_true rfl) hd (fun H1 locs1 hP hD hS1 => kk _ _ _ _ _ _ _ _ h ⟨hP, hD⟩ hS1 hc hs)
    · cases hf; exact va_put (D := D) (ci := 7) (v := .int v) (ty := .int) (C := RX7) (T := TX7) (N := 39) (own := RX7) (ref := RX7) hx hb hts in_X7 tyX7 tyX7_ok nmX7 hown hK.1 hW.1 hW.2 hS 0 rfl rfl 35 (by decide) (hts _ wd_641) (fun _ h9 => h9) rfl rfl rfl rfl (Nat.le_of_ble_eq_true rfl) hd (fun H1 locs1 hP hD hS1 => kk _ _ _ _ _ _ _ _ h ⟨hP, hD⟩ hS1 hc hs)
    · cases hf; exact va_put (D := D) (ci := 7) (v := .int v) (ty := .int) (C := RX7) (T := TX7) (N := 39) (own := RX7) (ref := RX7) hx hb hts in_X7 tyX7 tyX7_ok nmX7 hown hK.1 hW.1 hW.2 hS 0 rfl rfl 17 (by decide) (hts _ wd_623) (fun _ h9 => h9) rfl rfl rfl rfl (Nat.le_of_ble_eq_true rfl) hd (fun H1 locs1 hP hD hS1 => kk _ _ _ _ _ _ _ _ h ⟨hP, hD⟩ hS1 hc hs)
    · cases hf; exact va_put (D := D) (ci := 7) (v := .int v) (ty := .int) (C := RX7) (T := TX7) (N := 39) (own := RX7) (ref := RX7) hx hb hts in_X7 tyX7 tyX7_ok nmX7 hown hK.1 hW.1 hW.2 hS 0 rfl rfl 37 (by decide) (hts _ wd_643) (fun _ h9 => h9) rfl rfl rfl rfl (Nat.le_of_ble_eq_true rfl) hd (fun H1 locs1 hP hD hS1 => kk _ _ _ _ _ _ _ _ h ⟨hP, hD⟩ hS1 hc hs)
    · cases hf; exact va_put (D := D) (ci := 7) (v := .int v) (ty := .int) (C := RX7) (T := TX7) (N := 39) (own := RX7) (ref := RX7) hx hb hts in_X7 tyX7 tyX7_ok nmX7 hown hK.1 hW.1 hW.2 hS 0 rfl rfl 38 (by decide) (hts _ wd_644) (fun _ h9 => h9) rfl rfl rfl rfl (Nat.le_of_ble_eq_true rfl) hd (fun H1 locs1 hP hD hS1 => kk _ _ _ _ _ _ _ _ h ⟨hP, hD⟩ hS1 hc hs)
    · cases hf; exact va_put (D := D) (ci := 7) (v := .int v) (ty := .int) (C := RX7) (T := TX7) (N := 39) (own := RX7) (ref := RX7) hx hb hts in_X7 tyX7 tyX7_ok nmX7 hown hK.1 hW.1 hW.2 hS 0 rfl rfl 15 (by decide) (hts _ wd_621) (fun _ h9 => h9) rfl rfl rfl rfl (Nat.le_of_ble_eq_true rfl) hd (fun H1 locs1 hP hD hS1 => kk _ _ _ _ _ _ _ _ h ⟨hP, hD⟩ hS1 hc hs)
    · cases hf
  -- iaload
  · obtain rfl : len = 1 := by simpa [mm_okl] using hn
    split at h <;> (try exact h.elim)
    rename_i i f st'
    split at h <;> (try exact h.elim)
    rename_i hty
    obtain ⟨q0, h1, -⟩ := rf_pos (cs := cs) (ad := ad) (μ := s) hty
    exact va_iald hx hb hK.1 hW.1 q0 0 h1 rfl h.1 hd (kk _ _ _ _ _ _ _ _ h.2 hW hS hc hs)
  -- baload
  · obtain rfl : len = 1 := by simpa [mm_okl] using hn
    split at h <;> (try exact h.elim)
    rename_i i f st'
    split at h <;> (try exact h.elim)
    rename_i hty
    obtain ⟨q0, h1, -⟩ := rf_posZ (cs := cs) (ad := ad) (μ := s) hty
    exact va_zald hx hb hK.1 hW.1 q0 1 h1 rfl h.1 hd (kk _ _ _ _ _ _ _ _ h.2 hW hS hc hs)
  -- iastore
  · obtain rfl : len = 1 := by simpa [mm_okl] using hn
    split at h <;> (try exact h.elim)
    rename_i v i f st'
    split at h <;> (try exact h.elim)
    rename_i hty
    obtain ⟨q0, h1, h2⟩ := rf_pos (cs := cs) (ad := ad) (μ := s) hty
    exact va_iast hx hb hK.1 hW.1 hW.2 hS q0 0 h1 rfl h.1 hd (fun H1 locs1 hP hD hS1 => by
      rw [h2] at hP hD
      exact kk _ _ _ _ _ _ _ _ h.2 ⟨hP, hD⟩ hS1 hc hs)
  -- bastore
  · obtain rfl : len = 1 := by simpa [mm_okl] using hn
    split at h <;> (try exact h.elim)
    rename_i v i f st'
    split at h <;> (try exact h.elim)
    rename_i hty
    obtain ⟨q0, h1, h2⟩ := rf_posZ (cs := cs) (ad := ad) (μ := s) hty
    have hv : vp_nar .boolean v = v := by rcases h.2.1 with rfl | rfl <;> rfl
    exact va_zast hx hb hK.1 hW.1 hW.2 hS q0 1 h1 rfl h.1 hd (fun H1 locs1 hP hD hS1 => by
      rw [hv, h2] at hP hD
      exact kk _ _ _ _ _ _ _ _ h.2.2 ⟨hP, hD⟩ hS1 hc hs)
  -- ldc
  · obtain rfl : len = 2 := by simpa [mm_okl] using hn
    split at h <;> (try exact h.elim)
    rename_i v hv
    unfold rf_cst at hv
    split at hv
    · cases hv; exact lv_ldc (own := RX7) hx hb hown (hts _ wd_593) hd (kk _ _ _ _ _ _ _ _ h hW hS hc hs)
    · cases hv; exact lv_ldc (own := RX7) hx hb hown (hts _ wd_747) hd (kk _ _ _ _ _ _ _ _ h hW hS hc hs)
    · cases hv
end RFS
