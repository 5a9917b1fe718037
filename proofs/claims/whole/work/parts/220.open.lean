theorem z_kn {s : State} {A : Array Value} (hts : ∀ w ∈ lw_tbl, w.before A s = true) (k : Nat) : ∃ (q : ClassId × (Nat → Nat)), ∀ r : vw_C, vwCl[k]? = some r → u_Kn s r.1 r.2.1 r.2.2 q.1 q.2 := by
  match k with
  | 0 =>
    obtain ⟨c0, i0, h0⟩ := u_known (C := RX0) (T := TX0) (N := 6) (n := 6) hts (fun w hw => (gi_0 w hw).1) (hts _ q_571.1)
    exact ⟨(c0, i0), fun r hr => by cases hr; exact h0⟩
  | 1 =>
    obtain ⟨c0, i0, h0⟩ := u_known (C := RX1) (T := TX1) (N := 4) (n := 4) hts (fun w hw => (gi_1 w hw).1) (hts _ q_149.1)
    exact ⟨(c0, i0), fun r hr => by cases hr; exact h0⟩
  | 2 =>
    obtain ⟨c0, i0, h0⟩ := u_known (C := RX2) (T := TX2) (N := 4) (n := 4) hts (fun w hw => (gi_2 w hw).1) (hts _ q_168.1)
    exact ⟨(c0, i0), fun r hr => by cases hr; exact h0⟩
  | 3 =>
    obtain ⟨c0, i0, h0⟩ := u_known (C := RX3) (T := TX3) (N := 14) (n := 14) hts (fun w hw => (gi_3 w hw).1) (hts _ q_297.1)
    exact ⟨(c0, i0), fun r hr => by cases hr; exact h0⟩
  | 4 =>
    obtain ⟨c0, i0, h0⟩ := u_known (C := RX4) (T := TX4) (N := 6) (n := 6) hts (fun w hw => (gi_4 w hw).1) (hts _ q_482.1)
    exact ⟨(c0, i0), fun r hr => by cases hr; exact h0⟩
  | 5 =>
    obtain ⟨c0, i0, h0⟩ := u_known (C := RX5) (T := TX5) (N := 3) (n := 3) hts (fun w hw => (gi_5 w hw).1) (hts _ q_126.1)
    exact ⟨(c0, i0), fun r hr => by cases hr; exact h0⟩
  | 6 =>
    obtain ⟨c0, i0, h0⟩ := u_known (C := RX6) (T := TX6) (N := 5) (n := 5) hts (fun w hw => (gi_6 w hw).1) (hts _ q_854.1)
    exact ⟨(c0, i0), fun r hr => by cases hr; exact h0⟩
  | 7 =>
    obtain ⟨c0, i0, h0⟩ := u_known (C := RX7) (T := TX7) (N := 2) (n := 2) hts (fun w hw => (gi_7 w hw).1) (hts _ q_484.1)
    exact ⟨(c0, i0), fun r hr => by cases hr; exact h0⟩
  | 8 =>
    obtain ⟨c0, i0, h0⟩ := u_known (C := RX8) (T := TX8) (N := 6) (n := 6) hts (fun w hw => (gi_8 w hw).1) (hts _ q_701.1)
    exact ⟨(c0, i0), fun r hr => by cases hr; exact h0⟩
  | 9 =>
    obtain ⟨c0, i0, h0⟩ := u_known (C := RX9) (T := TX9) (N := 5) (n := 5) hts (fun w hw => (gi_9 w hw).1) (hts _ q_975.1)
    exact ⟨(c0, i0), fun r hr => by cases hr; exact h0⟩
  | 10 =>
    obtain ⟨c0, i0, h0⟩ := u_known (C := RX10) (T := TX10) (N := 4) (n := 4) hts (fun w hw => (gi_10 w hw).1) (hts _ q_97.1)
    exact ⟨(c0, i0), fun r hr => by cases hr; exact h0⟩
  | 11 =>
    obtain ⟨c0, i0, h0⟩ := u_known (C := RX11) (T := TX11) (N := 19) (n := 19) hts (fun w hw => (gi_11 w hw).1) (hts _ q_89.1)
    exact ⟨(c0, i0), fun r hr => by cases hr; exact h0⟩
  | 12 =>
    obtain ⟨c0, i0, h0⟩ := u_known (C := RX12) (T := TX12) (N := 39) (n := 39) hts (fun w hw => (gi_12 w hw).1) (hts _ q_1043.1)
    exact ⟨(c0, i0), fun r hr => by cases hr; exact h0⟩
  | k + 13 => exact ⟨(0, fun _ => 0), fun r hr => by simp [vwCl] at hr⟩
theorem z_ra {s : State} {A : Array Value} {ty : FieldType} (hp : ty = .int ∨ ty = .byte ∨ ty = .boolean) (h : (Cond.arrayClass ty).before A s = true) : ∃ c : ClassId, ArrOfT s c ty ∧ va_RA s c ty := by
  obtain ⟨c, k, comp, h1, h2, h3⟩ := Cond.arrayClass_spec h
  refine ⟨c, fun n z => ⟨fun k h => (by cases h), k, h2, comp, h3⟩, ?_⟩
  rcases hp with rfl | rfl | rfl <;> exact h1
theorem z_ro {s : State} {A : Array Value} {C : String} (h : (Cond.arrayOver (.object C)).before A s = true) : ∃ c : ClassId, ArrOfT s c (.object C) ∧ va_RA s c (.object C) := by
  obtain ⟨comp, c, k, h1, -, h3, h4, h5⟩ := Cond.arrayOver_spec h
  exact ⟨c, fun n z => ⟨fun k h => (by cases h), k, h3, comp, h4⟩, k, comp, h3, h4, h1, h5⟩
theorem z_ca {s : State} {A : Array Value} (hts : ∀ w ∈ lw_tbl, w.before A s = true) (k : Nat) : ∃ c : ClassId, k < 42 → ArrOfT s c (z_ty (13 + k)) ∧ va_RA s c (z_ty (13 + k)) := by
  match k with
  | 0 => obtain ⟨c, h⟩ := z_ra (Or.inr (Or.inl rfl)) (hts _ q_597.1); exact ⟨c, fun _ => h⟩
  | 1 => obtain ⟨c, h⟩ := z_ra (Or.inl rfl) (hts _ q_118.1); exact ⟨c, fun _ => h⟩
  | 2 => obtain ⟨c, h⟩ := z_ra (Or.inl rfl) (hts _ q_118.1); exact ⟨c, fun _ => h⟩
  | 3 => obtain ⟨c, h⟩ := z_ra (Or.inl rfl) (hts _ q_118.1); exact ⟨c, fun _ => h⟩
  | 4 => obtain ⟨c, h⟩ := z_ra (Or.inl rfl) (hts _ q_118.1); exact ⟨c, fun _ => h⟩
  | 5 => obtain ⟨c, h⟩ := z_ra (Or.inl rfl) (hts _ q_118.1); exact ⟨c, fun _ => h⟩
  | 6 => obtain ⟨c, h⟩ := z_ro (hts _ q_132); exact ⟨c, fun _ => h⟩
  | 7 => obtain ⟨c, h⟩ := z_ra (Or.inr (Or.inr rfl)) (hts _ q_117.1); exact ⟨c, fun _ => h⟩
  | 8 => obtain ⟨c, h⟩ := z_ra (Or.inl rfl) (hts _ q_118.1); exact ⟨c, fun _ => h⟩
  | 9 => obtain ⟨c, h⟩ := z_ro (hts _ q_120); exact ⟨c, fun _ => h⟩
  | 10 => obtain ⟨c, h⟩ := z_ro (hts _ q_122); exact ⟨c, fun _ => h⟩
  | 11 => obtain ⟨c, h⟩ := z_ro (hts _ q_124); exact ⟨c, fun _ => h⟩
  | 12 => obtain ⟨c, h⟩ := z_ro (hts _ q_145); exact ⟨c, fun _ => h⟩
  | 13 => obtain ⟨c, h⟩ := z_ro (hts _ q_147); exact ⟨c, fun _ => h⟩
  | 14 => obtain ⟨c, h⟩ := z_ra (Or.inl rfl) (hts _ q_118.1); exact ⟨c, fun _ => h⟩
  | 15 => obtain ⟨c, h⟩ := z_ra (Or.inl rfl) (hts _ q_118.1); exact ⟨c, fun _ => h⟩
  | 16 => obtain ⟨c, h⟩ := z_ra (Or.inr (Or.inr rfl)) (hts _ q_117.1); exact ⟨c, fun _ => h⟩
  | 17 => obtain ⟨c, h⟩ := z_ra (Or.inl rfl) (hts _ q_118.1); exact ⟨c, fun _ => h⟩
  | 18 => obtain ⟨c, h⟩ := z_ra (Or.inl rfl) (hts _ q_118.1); exact ⟨c, fun _ => h⟩
  | 19 => obtain ⟨c, h⟩ := z_ra (Or.inl rfl) (hts _ q_118.1); exact ⟨c, fun _ => h⟩
  | 20 => obtain ⟨c, h⟩ := z_ra (Or.inl rfl) (hts _ q_118.1); exact ⟨c, fun _ => h⟩
  | 21 => obtain ⟨c, h⟩ := z_ra (Or.inl rfl) (hts _ q_118.1); exact ⟨c, fun _ => h⟩
  | 22 => obtain ⟨c, h⟩ := z_ra (Or.inl rfl) (hts _ q_118.1); exact ⟨c, fun _ => h⟩
  | 23 => obtain ⟨c, h⟩ := z_ra (Or.inl rfl) (hts _ q_118.1); exact ⟨c, fun _ => h⟩
  | 24 => obtain ⟨c, h⟩ := z_ra (Or.inl rfl) (hts _ q_118.1); exact ⟨c, fun _ => h⟩
  | 25 => obtain ⟨c, h⟩ := z_ra (Or.inr (Or.inr rfl)) (hts _ q_117.1); exact ⟨c, fun _ => h⟩
  | 26 => obtain ⟨c, h⟩ := z_ra (Or.inl rfl) (hts _ q_118.1); exact ⟨c, fun _ => h⟩
  | 27 => obtain ⟨c, h⟩ := z_ra (Or.inl rfl) (hts _ q_118.1); exact ⟨c, fun _ => h⟩
  | 28 => obtain ⟨c, h⟩ := z_ra (Or.inl rfl) (hts _ q_118.1); exact ⟨c, fun _ => h⟩
  | 29 => obtain ⟨c, h⟩ := z_ra (Or.inl rfl) (hts _ q_118.1); exact ⟨c, fun _ => h⟩
  | 30 => obtain ⟨c, h⟩ := z_ra (Or.inr (Or.inr rfl)) (hts _ q_117.1); exact ⟨c, fun _ => h⟩
  | 31 => obtain ⟨c, h⟩ := z_ra (Or.inl rfl) (hts _ q_118.1); exact ⟨c, fun _ => h⟩
  | 32 => obtain ⟨c, h⟩ := z_ra (Or.inl rfl) (hts _ q_118.1); exact ⟨c, fun _ => h⟩
  | 33 => obtain ⟨c, h⟩ := z_ra (Or.inl rfl) (hts _ q_118.1); exact ⟨c, fun _ => h⟩
  | 34 => obtain ⟨c, h⟩ := z_ra (Or.inl rfl) (hts _ q_118.1); exact ⟨c, fun _ => h⟩
  | 35 => obtain ⟨c, h⟩ := z_ra (Or.inl rfl) (hts _ q_118.1); exact ⟨c, fun _ => h⟩
  | 36 => obtain ⟨c, h⟩ := z_ra (Or.inl rfl) (hts _ q_118.1); exact ⟨c, fun _ => h⟩
  | 37 => obtain ⟨c, h⟩ := z_ra (Or.inl rfl) (hts _ q_118.1); exact ⟨c, fun _ => h⟩
  | 38 => obtain ⟨c, h⟩ := z_ra (Or.inr (Or.inr rfl)) (hts _ q_117.1); exact ⟨c, fun _ => h⟩
  | 39 => obtain ⟨c, h⟩ := z_ra (Or.inl rfl) (hts _ q_118.1); exact ⟨c, fun _ => h⟩
  | 40 => obtain ⟨c, h⟩ := z_ra (Or.inl rfl) (hts _ q_118.1); exact ⟨c, fun _ => h⟩
  | 41 => obtain ⟨c, h⟩ := z_ra (Or.inl rfl) (hts _ q_118.1); exact ⟨c, fun _ => h⟩
  | k + 42 => exact ⟨0, fun h => by omega⟩
set_option maxHeartbeats 2000000 in
theorem whole_open {p : Program} {e : Env} {s : State} {m : MethodId} {below : List Frame} {meth : Method} {c : Code} (l : Launch) {b L : Nat} {xs : Nat → Int32} (hmain : ∃ S', f_L_law L xs zE = some S') (C0 : lw_At p s m meth c b L xs) : W p l e room_1 s m #[Value.ref b] below meth c s.heap [] 0 0 (lw_Z below #[Value.ref b] s) (entryFrame m ([Value.ref b] : List Value).toArray 4) := by
  obtain ⟨hx, hb, hr, hml, hown, hts, hX, hbl, hlocks, hgv⟩ := C0
  obtain ⟨S', hS'⟩ := hmain
  obtain ⟨dd, hdd⟩ := Classical.skolem.mp (z_kn hts)
  obtain ⟨ca, hca⟩ := Classical.skolem.mp (z_ca hts)
  have hK : va_K (fun k => (dd k).1, fun k => (dd k).2) vwCl (z_tys fun k => ca (k - 13)) s := by
    refine ⟨fun k q hq => hdd k q hq, fun k q hq => ?_⟩
    unfold z_tys at hq
    rw [List.getElem?_map] at hq
    cases hk : (List.range 42)[k]? with
    | none => rw [hk] at hq; cases hq
    | some j =>
      rw [hk] at hq
      cases hq
      have hj := List.mem_range.mp (List.mem_of_getElem? hk)
      show ArrOfT s (ca (13 + j - 13)) _ ∧ va_RA s (ca (13 + j - 13)) _
      rw [show 13 + j - 13 = j by omega]
      exact hca j hj
  have hWd : z_Wd s := ⟨fun w hw hg a => word_at (State.WarmedH.refl s) hg (hts w hw), fun own idx y host hw => va_Nw.of rfl (hts _ hw), fun C hw => va_AO.of (hts _ hw), fun hw => va_Nw.of rfl (hts _ hw)⟩
  have hl := lv_entry ([.ref b]) (n := 4) (Nat.le_of_ble_eq_true rfl)
  rw [lg_entry_eq]
  have key := w_L_law hS' p l e room_1 s m #[Value.ref b] below meth c (fun k => (dd k).1, fun k => (dd k).2) (fun k => ca (k - 13)) (fun _ _ => b) (fun _ _ => b) [] s.heap [] 0 0 _ (lw_Z below #[Value.ref b] s)
    ⟨hx, hb, hml, hr, hlocks, hown, hWd, fun h => absurd h (by decide), ⟨Nat.le_of_ble_eq_true rfl, Nat.le_of_ble_eq_true rfl, Nat.le_of_ble_eq_true rfl, Nat.le_of_ble_eq_true rfl⟩, hK⟩
    ⟨hX, hbl, rfl, rfl⟩
    ⟨fun k i => ⟨fun h => (by cases h), fun ⟨h1, h2⟩ => by rw [zE_N h1] at h2; omega⟩, fun k q h => by simp [z_ws] at h, ⟨fun i j p q h => by simp [z_ws] at h, fun k q h => by simp [z_ws] at h⟩, fun k i j q k' h1 h2 => by rw [zE_N h1] at h2; omega, va_S.rf, ⟨fun _ => Nat.le_refl _, fun _ _ _ => rfl⟩, fun q hq => by rw [List.mem_singleton.mp hq]; show 0 < zN zE 99; decide, (fun v hv => by cases hv), ⟨rfl, rfl, Nat.zero_le _, Nat.zero_le _⟩, hl⟩
  exact key
