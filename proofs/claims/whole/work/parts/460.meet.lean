/-! ===== the reference: what gangs on given walks meet ===== -/
theorem MV.nT {A : ZA} {S : ZH} (hA : AIn A) (h : MV A S) : zI S 12 0 1 = nI (aN A 1) := (h.f 1 rfl).trans hA.c1.1
theorem LK.k {A : ZA} {S S' : ZH} {k0 : Nat} (h : LK A S) (hk : k0 = 46 ∨ k0 = 47) (f : FR k0 S S') : LK A S' := by
  refine ⟨h.1.FR (by omega) f, fun a b ha hb => ?_, fun s hs => ?_⟩
  · rw [(f.1 30 (by omega)).2.2.1]; exact h.2.1 a b ha hb
  · rw [(f.1 45 (by omega)).2.2.1]; exact h.2.2 s hs
def M47 (A : ZA) (t : Nat) (L : List NN) (T : ZH) : Prop := (∀ p, p ∈ L → p.1 ≤ t ∧ p.2 < aN A 1 ∧ zI T 47 0 p.2 = nI p.1) ∧ ∀ u, u < 8 → (∀ p, p ∈ L → p.2 ≠ u) → zI T 47 0 u = -9
abbrev eA (A : ZA) (t s : Nat) (L : List NN) : List NN := evt (thA A) (aD A) t s L
theorem heard_loop {A : ZA} {T : ZH} (hA : AIn A) (hT : LK A T) {t s : Nat} {L : List NN} (ht : t < 3) (hs : s < aN A 1) (hM : M47 A t L T) (a1 a2 a3 a4 : Int32) (s0 : Int32) (h01 : b01 s0) : z_iter zFU (b_X12_meet_192 0 a1 a2 a3 (nI t) a4 (nI s) T) (s0, (0 : Int32)) = some 1 ∧ (s0 = 1 ∧ ∀ p, p ∈ L → ¬ (p.1 ≠ t ∧ aD A p.2 s ≤ t - p.1)) ∨ z_iter zFU (b_X12_meet_192 0 a1 a2 a3 (nI t) a4 (nI s) T) (s0, (0 : Int32)) = some 0 ∧ ¬ (s0 = 1 ∧ ∀ p, p ∈ L → ¬ (p.1 ≠ t ∧ aD A p.2 s ≤ t - p.1)) := by
  have hn := hA.c1.2
  have key := z_inv0 (b := b_X12_meet_192 0 a1 a2 a3 (nI t) a4 (nI s) T) (X := fun r => (r = 1 ∧ (s0 = 1 ∧ ∀ p, p ∈ L → ¬ (p.1 ≠ t ∧ aD A p.2 s ≤ t - p.1))) ∨ (r = 0 ∧ ¬ (s0 = 1 ∧ ∀ p, p ∈ L → ¬ (p.1 ≠ t ∧ aD A p.2 s ≤ t - p.1)))) (fun u v => v.2 = nI u ∧ ((v.1 = 1 ∧ (s0 = 1 ∧ ∀ p, p ∈ L → p.2 < u → ¬ (p.1 ≠ t ∧ aD A p.2 s ≤ t - p.1))) ∨ (v.1 = 0 ∧ ¬ (s0 = 1 ∧ ∀ p, p ∈ L → ¬ (p.1 ≠ t ∧ aD A p.2 s ≤ t - p.1))))) (aN A 1) (v := (s0, (0 : Int32))) (by omega) ⟨rfl, by
      rcases h01 with e | e
      · right; exact ⟨e, fun z => by rw [e] at z; exact absurd z.1 (by decide)⟩
      · left; exact ⟨e, e, fun p _ z => by omega⟩⟩ (fun u v hu hI => ?_) (fun v hI => ?_)
  · obtain ⟨r, e1, ⟨e2, e3⟩ | ⟨e2, e3⟩⟩ := key
    · left; exact ⟨by rw [e1, e2], e3⟩
    · right; exact ⟨by rw [e1, e2], e3⟩
  · obtain ⟨v1, v2⟩ := v
    obtain ⟨i1, i2⟩ := hI
    replace i1 : v2 = nI u := i1
    replace i2 : (v1 = 1 ∧ (s0 = 1 ∧ ∀ p, p ∈ L → p.2 < u → ¬ (p.1 ≠ t ∧ aD A p.2 s ≤ t - p.1))) ∨ (v1 = 0 ∧ ¬ (s0 = 1 ∧ ∀ p, p ∈ L → ¬ (p.1 ≠ t ∧ aD A p.2 s ≤ t - p.1))) := i2
    subst i1
    have e47 : zld T 47 0 (nI u) = some (zI T 47 0 u) := zld_at (hT.1.len 47 8 rfl) (by omega) (by decide)
    unfold b_X12_meet_192
    dsimp only
    rw [hT.1.nT hA, if_neg (by rw [nI_leI (by omega) (by omega)]; omega)]
    rcases i2 with ⟨j1, j2, j3⟩ | ⟨j1, j2⟩
    · rw [j1, if_neg (by decide)]
      by_cases q : ∃ p, p ∈ L ∧ p.2 = u
      · obtain ⟨p, hp, ep⟩ := q
        obtain ⟨m1, m2, m3⟩ := hM.1 p hp
        rw [ep] at m3
        have uq : ∀ p', p' ∈ L → p'.2 = u → p'.1 = p.1 := by
          intro p' hp' ep'
          obtain ⟨n1, n2, n3⟩ := hM.1 p' hp'
          rw [ep', m3] at n3
          exact (nI_inj (by omega) (by omega) n3).symm
        have ext : ¬ (p.1 ≠ t ∧ aD A p.2 s ≤ t - p.1) → ∀ p', p' ∈ L → p'.2 < u + 1 → ¬ (p'.1 ≠ t ∧ aD A p'.2 s ≤ t - p'.1) := by
          intro hh p' hp' hl
          by_cases e : p'.2 = u
          · rw [uq p' hp' e, e, ← ep]; exact hh
          · exact j3 p' hp' (by omega)
        by_cases q2 : p.1 = t
        · refine ⟨(1, nI (u + 1)), ?_, rfl, Or.inl ⟨rfl, j2, ext (fun z => z.1 q2)⟩⟩
          refine (o_b (hT.1.ref 29 rfl)).trans ?_
          refine (o_b e47).trans ?_
          rw [m3, if_neg (nI_n9 (by omega))]
          refine (o_b (hT.1.ref 29 rfl)).trans ?_
          refine (o_b e47).trans ?_
          rw [m3, q2, if_pos rfl, nI_1]
        · have pre : ∀ (X Y : Option ((Int32 × Int32) ⊕ Int32)), (((zR T 12 0 29)).bind fun a21 => (zld T 47 a21 (nI u)).bind fun v22 => if v22 = (-9 : Int32) then X else ((zR T 12 0 29)).bind fun a23 => (zld T 47 a23 (nI u)).bind fun v24 => if v24 = nI t then X else ((zR T 12 0 29)).bind fun a25 => (zld T 47 a25 (nI u)).bind fun v26 => ((zR T 12 0 3)).bind fun a27 => (zld T 30 a27 (((8 : Int32) * nI u) + nI s)).bind fun v28 => if v28 ≤ (nI t - v26) then Y else X) = if aD A u s ≤ t - p.1 then Y else X := by
            intro X Y
            refine (o_b (hT.1.ref 29 rfl)).trans ?_
            refine (o_b e47).trans ?_
            rw [m3, if_neg (nI_n9 (by omega))]
            refine (o_b (hT.1.ref 29 rfl)).trans ?_
            refine (o_b e47).trans ?_
            rw [m3, if_neg (fun z => q2 (nI_inj (by omega) (by omega) z))]
            refine (o_b (hT.1.ref 29 rfl)).trans ?_
            refine (o_b e47).trans ?_
            rw [m3]
            refine (o_b (hT.1.ref 3 rfl)).trans ?_
            rw [ix8]
            refine (o_b (zld_at (hT.1.len 30 64 rfl) (by omega) (by decide))).trans ?_
            rw [hT.2.1 u s (by omega) (by omega), nI_sub m1]
            have h100 := aD_le (A := A) u s
            by_cases y : aD A u s ≤ t - p.1
            · rw [if_pos y, if_pos (nI_le y (by omega))]
            · rw [if_neg y, if_neg (fun z => y ((nI_leI (by omega) (by omega)).mp z))]
          rw [pre]
          by_cases y : aD A u s ≤ t - p.1
          · refine ⟨(0, nI u + 1), by rw [if_pos y], nI_1 u, Or.inr ⟨rfl, fun z => z.2 p hp ⟨q2, by rw [ep]; exact y⟩⟩⟩
          · refine ⟨(1, nI u + 1), by rw [if_neg y], nI_1 u, Or.inl ⟨rfl, j2, ext (fun z => y (by rw [← ep]; exact z.2))⟩⟩
      · have m3 := hM.2 u (by omega) (fun p hp e => q ⟨p, hp, e⟩)
        refine ⟨(1, nI (u + 1)), ?_, rfl, Or.inl ⟨rfl, j2, fun p hp hl => ?_⟩⟩
        · refine (o_b (hT.1.ref 29 rfl)).trans ?_
          refine (o_b e47).trans ?_
          rw [m3, if_pos rfl, nI_1]
        · by_cases e : p.2 = u
          · exact absurd ⟨p, hp, e⟩ q
          · exact j3 p hp (by omega)
    · refine ⟨(0, nI (u + 1)), ?_, rfl, Or.inr ⟨rfl, j2⟩⟩
      rw [j1, if_pos rfl, nI_1]
  · obtain ⟨v1, v2⟩ := v
    obtain ⟨i1, i2⟩ := hI
    replace i1 : v2 = nI (aN A 1) := i1
    refine ⟨v1, ?_, ?_⟩
    · unfold b_X12_meet_192
      dsimp only
      rw [hT.1.nT hA, i1, if_pos (nI_le (Nat.le_refl _) (by omega))]
    · rcases i2 with ⟨j1, j2, j3⟩ | ⟨j1, j2⟩
      · left; exact ⟨j1, j2, fun p hp => j3 p hp (hM.1 p hp).2.1⟩
      · right; exact ⟨j1, j2⟩
/-- one gang comes to a street -/
theorem evt_eq {A : ZA} {T : ZH} (hA : AIn A) (hT : LK A T) {g h t j s : Nat} {L : List NN} (hg : g ≤ 2) (hh : h ≤ 3) (ht : t < h) (hj : j < g) (hs : s < aN A 1) (h46 : zI T 46 0 (j * h + t) = nI s) (hM : M47 A t L T) : ∃ T', b_X12_meet_140 0 (nI g) (nI h) (nI t) (nI (lval (thA A) L), nI j, T) = some (.inl (nI (lval (thA A) (eA A t s L)), nI (j + 1), T')) ∧ FR 47 T T' ∧ M47 A t (eA A t s L) T' := by
  have hn := hA.c1.2
  have h40 := thA_le hA s
  have hjh : j * h + t < 6 := by
    have : j * h ≤ 1 * h := Nat.mul_le_mul_right h (by omega)
    omega
  have e47 : zld T 47 0 (nI s) = some (zI T 47 0 s) := zld_at (hT.1.len 47 8 rfl) (by omega) (by decide)
  have fin : ∀ s0 : Int32, b01 s0 → (s0 = 1 ↔ (0 < thA A s ∧ ∀ p, p ∈ L → p.2 ≠ s)) → ∃ T', j_X12_meet_187 0 (nI g) (nI h) (nI (lval (thA A) L)) (nI t) (nI j) (nI s) s0 T = some (.inl (nI (lval (thA A) (eA A t s L)), nI (j + 1), T')) ∧ FR 47 T T' ∧ M47 A t (eA A t s L) T' := by
    intro s0 h01 hs0
    unfold j_X12_meet_187
    rcases heard_loop hA hT (by omega) hs hM (nI g) (nI h) (nI (lval (thA A) L)) (nI j) s0 h01 with ⟨e1, e2, e3⟩ | ⟨e1, e2⟩
    · have c := hs0.mp e2
      have ee : eA A t s L = L ++ [(t, s)] := by
        unfold eA evt
        rw [if_pos ⟨c.1, fun p hp => by rintro (z | z); exact c.2 p hp z; exact e3 p hp z⟩]
      have el : ∀ L : List NN, lval (thA A) (L ++ [(t, s)]) = lval (thA A) L + thA A s := by
        intro L
        induction L with
        | nil => show thA A s + 0 = 0 + thA A s; omega
        | cons a l ih =>
          show thA A a.2 + lval (thA A) (l ++ [(t, s)]) = thA A a.2 + lval (thA A) l + thA A s
          omega
      refine ⟨zsI T 47 0 s (nI t), ?_, FR.sI, ?_, ?_⟩
      · refine (o_b e1).trans ?_
        rw [if_neg (by decide)]
        refine (o_b (hT.1.ref 29 rfl)).trans ?_
        rw [zst_b (by exact hT.1.len 47 8 rfl) (by omega) (by decide)]
        have hT2 := hT.k (Or.inr rfl) (FR.sI (i := 0) (j := s) (v := nI t))
        refine (o_b (hT2.1.ref 27 rfl)).trans ?_
        refine (o_b (zld_at (hT2.1.len 45 8 rfl) (by omega) (by decide))).trans ?_
        rw [hT2.2.2 s (by omega), ee, el, nI_add, nI_1]
      · rw [ee]
        intro p hp
        rw [zI_sI]
        rcases List.mem_append.mp hp with hp | hp
        · have m := hM.1 p hp
          rw [if_neg (fun z => c.2 p hp z.2)]
          exact m
        · have e : p = (t, s) := by simpa using hp
          rw [e, if_pos ⟨rfl, rfl⟩]
          exact ⟨Nat.le_refl _, hs, rfl⟩
      · rw [ee]
        intro u hu hall
        rw [zI_sI, if_neg (fun z => hall (t, s) (List.mem_append.mpr (Or.inr (by simp))) z.2.symm)]
        exact hM.2 u hu (fun p hp => hall p (List.mem_append.mpr (Or.inl hp)))
    · have ee : eA A t s L = L := by
        unfold eA evt
        rw [if_neg (fun z => e2 ⟨hs0.mpr ⟨z.1, fun p hp q => z.2 p hp (Or.inl q)⟩, fun p hp q => z.2 p hp (Or.inr q)⟩)]
      rw [ee]
      refine ⟨T, ?_, FR.rf, hM⟩
      refine (o_b e1).trans ?_
      rw [if_pos rfl, nI_1]
  unfold b_X12_meet_140
  dsimp only
  rw [if_neg (by rw [nI_leI (by omega) (by omega)]; omega), nI_mul, nI_add]
  have pre : ∀ {β : Type} (G : Int32 → Int32 → Option β), (((zR T 12 0 28)).bind fun a17 => (zld T 46 a17 (nI (j * h + t))).bind fun v18 => ((zR T 12 0 27)).bind fun a19 => (zld T 45 a19 v18).bind (G v18)) = G (nI s) (nI (thA A s)) := by
    intro β G
    refine (o_b (hT.1.ref 28 rfl)).trans ?_
    refine (o_b (zld_at (hT.1.len 46 6 rfl) hjh (by decide))).trans ?_
    rw [h46]
    refine (o_b (hT.1.ref 27 rfl)).trans ?_
    refine (o_b (zld_at (hT.1.len 45 8 rfl) (by omega) (by decide))).trans ?_
    rw [hT.2.2 s (by omega)]
  rw [pre (fun v18 v20 => if v20 ≤ 0 then j_X12_meet_186 0 (nI g) (nI h) (nI (lval (thA A) L)) (nI t) (nI j) v18 T else ((zR T 12 0 29)).bind fun a34 => (zld T 47 a34 v18).bind fun v35 => if ¬ v35 = (-9 : Int32) then j_X12_meet_186 0 (nI g) (nI h) (nI (lval (thA A) L)) (nI t) (nI j) v18 T else j_X12_meet_187 0 (nI g) (nI h) (nI (lval (thA A) L)) (nI t) (nI j) v18 (1 : Int32) T)]
  unfold j_X12_meet_186
  by_cases q : 0 < thA A s
  · rw [if_neg (nI_pz q (by omega)).1]
    by_cases q2 : ∃ p, p ∈ L ∧ p.2 = s
    · obtain ⟨p, hp, ep⟩ := q2
      have m := hM.1 p hp
      obtain ⟨T', f1, f2⟩ := fin 0 (Or.inl rfl) ⟨fun z => absurd z (by decide), fun z => absurd ep (z.2 p hp)⟩
      refine ⟨T', ?_, f2⟩
      refine (o_b (hT.1.ref 29 rfl)).trans ?_
      refine (o_b e47).trans ?_
      rw [← ep, m.2.2, if_pos (nI_n9 (by omega)), ep]
      exact f1
    · have m := hM.2 s (by omega) (fun p hp e => q2 ⟨p, hp, e⟩)
      obtain ⟨T', f1, f2⟩ := fin 1 (Or.inr rfl) ⟨fun _ => ⟨q, fun p hp e => q2 ⟨p, hp, e⟩⟩, fun _ => rfl⟩
      refine ⟨T', ?_, f2⟩
      refine (o_b (hT.1.ref 29 rfl)).trans ?_
      refine (o_b e47).trans ?_
      rw [m, if_neg (fun z => z rfl)]
      exact f1
  · obtain ⟨T', f1, f2⟩ := fin 0 (Or.inl rfl) ⟨fun z => absurd z (by decide), fun z => absurd z.1 q⟩
    refine ⟨T', ?_, f2⟩
    rw [show thA A s = 0 by omega, if_pos (by decide)]
    exact f1
