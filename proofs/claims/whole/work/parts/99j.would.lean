theorem MZ.mk {w u : eW} (hB : HB w) (hM : MB u) (e : u 33 24 = w 2 0 ∧ u 33 25 = w 2 1 ∧ u 33 26 = w 2 2 ∧ u 33 27 = w 6 1 ∧ u 33 28 = w 33 28) (hc : ∀ x y, 0 ≤ x → x < 14 → 0 ≤ y → y < 10 → u 38 (14 * y + x) = bitv (w 3 y) x) (hs : ∀ s, 0 ≤ s → s < 4 → u 38 (140 + s) = w 4 s) (hm : ∀ i, 0 ≤ i → i < 2 * w 2 2 → u 40 i = w 5 i) (ho : ∀ i, 0 ≤ i → i < 16 → i % 2 = 1 → u 40 i ≤ 40) : MZ w u := by
  have hS : SM (fun k => if k < 33 then w k else if k = 37 then (fun _ => 0) else u k) := ⟨e.1, e.2.1, e.2.2.1, e.2.2.2.1, hc, hs, hm⟩
  have hQ : MO (fun k => if k < 33 then w k else if k = 37 then (fun _ => 0) else u k) := fun i i1 i2 => ⟨⟨(by decide : (0 : Int) ≤ 0), (by decide : (0 : Int) ≤ 56), fun _ => (by decide : (0 : Int) ≤ 40)⟩, ho i i1 i2⟩
  have h : MZ (fun k => if k < 33 then w k else if k = 37 then (fun _ => 0) else u k) (fun k => if k < 33 then w k else if k = 37 then (fun _ => 0) else u k) := MZ.of (S := []) hB hM hS hQ Fr.rf (by decide)
  exact ⟨hM, e, h.2.2.1, h.2.2.2.1, h.2.2.2.2.1, h.2.2.2.2.2.1, hm, h.2.2.2.2.2.2.2.1, h.2.2.2.2.2.2.2.2.1, hc, hs, ho⟩
theorem flip_back {n x : Int} (hn : 0 ≤ n ∧ n < 16384) (hx : 0 ≤ x ∧ x < 14) : eXor (eXor n (1 * 2 ^ x.toNat)) (1 * 2 ^ x.toNat) = n := by
  have hq : (2 : Int) ^ x.toNat < 16384 := by
    have h1 : (2 : Nat) ^ x.toNat ≤ 2 ^ 13 := Nat.pow_le_pow_right (by decide) (by omega)
    rw [e_two]
    omega
  have hp := e_pow14 (k := x) (by omega)
  have l1 := eXor_lt (a := n) (b := 1 * 2 ^ x.toNat) 14 (by decide) (by omega) (by omega)
  have l2 := eXor_lt (a := eXor n (1 * 2 ^ x.toNat)) (b := 1 * 2 ^ x.toNat) 14 (by decide) (by omega) (by omega)
  refine bitv_ext (k := 14) l2 hn (fun x' x1 x2 => ?_)
  rw [flip_bit l1 hx x1, flip_bit hn hx x1, flip_bit hn hx hx.1]
  by_cases c : x' = x
  · rw [if_pos c, if_pos rfl, c]; omega
  · rw [if_neg c, if_neg c]
theorem z_isLast1 {w u : eW} (m : MZ w u) (hH : HH w) {x y : Int} (hx : eI x) (hy : eI y) (h : insC w x y ∧ cnt2 w = 1) : Cal mX8_isLast [eR 33, (0, x), (0, y)] (eU u 33 0 0) (some (0, 1)) (eU u 33 0 0) := by
  have q := y_b_X8_isLast (eU u 33 0 0) x y hx hy m.z.1
  rw [if_pos ⟨(m.z.ins x y).mpr h.1, by rw [m.z.2.2.2.2.2.2.2.2.1 hH]; exact h.2⟩] at q
  exact q
theorem z_isLast0 {w u : eW} (m : MZ w u) (hH : HH w) {x y : Int} (hx : eI x) (hy : eI y) (h : ¬ (insC w x y ∧ cnt2 w = 1)) : Cal mX8_isLast [eR 33, (0, x), (0, y)] (eU u 33 0 0) (some (0, 0)) (eU u 33 0 0) := by
  have q := y_b_X8_isLast (eU u 33 0 0) x y hx hy m.z.1
  rw [if_neg (fun z => h ⟨(m.z.ins x y).mp z.1, by rw [← m.z.2.2.2.2.2.2.2.2.1 hH]; exact z.2⟩)] at q
  exact q
theorem flip_MZ {w u : eW} (m : MZ w u) (hH : HH w) {x y : Int} (c1 : 0 ≤ x ∧ x < w 2 0 ∧ 0 ≤ y ∧ y < w 2 1) : MZ (eU w 3 y (eXor (w 3 y) (1 * 2 ^ x.toNat))) (eU (eU u 33 0 0) 38 (14 * y + x) (1 - u 38 (14 * y + x))) := by
  obtain ⟨⟨b1, b2, b3, b4, b5, b6⟩, b7, b8, b9⟩ := id hH.1
  have hHa := HH_flip hH (x := x) (y := y) (by omega) (by omega)
  have fa : Fr [3] w (eU w 3 y (eXor (w 3 y) (1 * 2 ^ x.toNat))) := Fr.put Fr.rf (by decide)
  have ea : ∀ y', eU w 3 y (eXor (w 3 y) (1 * 2 ^ x.toNat)) 3 y' = if y' = y then eXor (w 3 y) (1 * 2 ^ x.toNat) else w 3 y' := fun y' => eU_get _ _ _ _ _
  generalize eA : eU w 3 y (eXor (w 3 y) (1 * 2 ^ x.toNat)) = wa at *
  have a2 : wa 2 = w 2 := fa 2 (by decide)
  have a4 : wa 4 = w 4 := fa 4 (by decide)
  obtain ⟨m1, ⟨n1, n2, n3, n4, n5⟩, m3, m4, m5, m6, m7, m8, m9, m10, m11, m12⟩ := id m
  obtain ⟨y1, ⟨p1, p2, p3, p4, p5⟩, y3, y4, y5, y6, y7, y8, y9, y10, y11, y12⟩ := id m.z
  have ezf : ∀ j, eU (eU u 33 0 0) 38 (14 * y + x) (1 - u 38 (14 * y + x)) 38 j = if j = 14 * y + x then 1 - bitv (w 3 y) x else u 38 j := fun j => by
    rw [eU_get, m10 x y (by omega) (by omega) (by omega) (by omega), eU_ne (by decide)]
  refine MZ.mk hHa.1 ?_ ?_ (fun x' y' x1 x2 y1' y2' => ?_) (fun s s1 s2 => ?_) ?_ ?_
  · obtain ⟨q1, q2, q3, q4⟩ := y1
    refine ⟨?_, fun i i1 i2 => ?_, fun i i1 i2 => ?_, ?_⟩
    · rw [eU_ne (by decide)]; exact q1
    · rw [ezf]
      have := bitv_01 (w 3 y) x
      have := m1.2.1 i i1 i2
      split <;> omega
    · rw [ezf, if_neg (by omega)]; exact m1.2.2.1 i i1 i2
    · rw [eU_ne (by decide)]; exact q4
  · rw [eU_ne (by decide), a2, fa 6 (by decide), fa 33 (by decide)]; exact ⟨p1, p2, p3, p4, p5⟩
  · rw [ezf, ea y']
    by_cases c : y' = y
    · rw [if_pos c, flip_bit (b7 y (by omega) (by omega)) (by omega) x1]
      by_cases d : x' = x
      · rw [if_pos d, if_pos (by omega)]
      · rw [if_neg d, if_neg (by omega), m10 x' y' x1 x2 y1' y2', c]
    · rw [if_neg c, if_neg (by omega), m10 x' y' x1 x2 y1' y2']
  · rw [ezf, if_neg (by omega), m11 s s1 s2, a4]
  · rw [eU_ne (by decide), a2, fa 5 (by decide)]; exact y7
  · rw [eU_ne (by decide)]; exact y12
theorem s_would (x y what : Int) (hx : eI x) (hy : eI y) (hw : eI what) : ST 1 mX7_would mX8_would [(0, x), (0, y), (0, what)] := by
  intro w hI
  obtain ⟨hB, hM, hS, hO, -, hT, -, hC⟩ := id hI
  obtain ⟨⟨b1, b2, b3, b4, b5, b6⟩, b7, b8, b9⟩ := id hB
  by_cases c1 : 0 ≤ x ∧ x < w 2 0 ∧ 0 ≤ y ∧ y < w 2 1
  · rcases hO with ⟨o1, o2, o3, o4, o5⟩ | ⟨o1, o2, o3, hH, hmk, hne⟩
    · exfalso; omega
    have hil := y_b_X0_isLastInside w x y hx hy hB
    have fl1 := HB_flip hB (x := x) (y := y) (by omega) (by omega)
    have g1 := zX0_flip w x y hx hy hB
    rw [fl1.1] at g1
    by_cases c2 : what = 0 ∨ what = 1
    · by_cases c3 : insC w x y ∧ cnt2 w = 1
      · rw [if_pos c3] at hil
        refine step_q (r := (1, -1)) (v := 5) hI (by decide) ⟨w, Cal.of (by decide +kernel) (Nat.le_of_ble_eq_true rfl) ?_, Fr.rf, hC⟩ (fun u m => ?_)
        · apply tX7_would_0 w x y what hB (wa := eU w 3 y (eXor (w 3 y) (1 * 2 ^ x.toNat))) (wb := eU w 3 y (eXor (w 3 y) (1 * 2 ^ x.toNat))) (il := 1) hx hy hw (by decide) (fun _ => hil) (fun _ => g1) (fun _ q => absurd q (by decide)) (fun _ => zX0_flip _ x y hx hy fl1.2) <;> (intros; first | with_reducible exact ⟨rfl, rfl⟩ | contradiction | (exfalso; omega))
        · obtain ⟨m1, ⟨n1, n2, n3, n4, n5⟩, m3, m4, m5, m6, m7, m8, m9, m10, m11, m12⟩ := id m
          refine ⟨eU u 33 0 0, Cal.of (by decide +kernel) (Nat.le_of_ble_eq_true rfl) ?_, Fr.rf, fun _ _ _ => rfl⟩
          apply tX8_would_0 u x y what m1 (w1 := u) (fr := 1) (il := 1) hx hy hw (by decide) (Or.inr (by omega)) (by decide) (z_isFrame1 m hx hy o1 c1) (fun _ => z_isLast1 m hH hx hy c3) (fun _ q => absurd q (by decide)) <;> (intros; first | with_reducible exact ⟨rfl, rfl⟩ | contradiction | (exfalso; omega))
      · rw [if_neg c3] at hil
        have hHa := HH_flip hH (x := x) (y := y) (by omega) (by omega)
        have fa : Fr [3] w (eU w 3 y (eXor (w 3 y) (1 * 2 ^ x.toNat))) := Fr.put Fr.rf (by decide)
        have ea : ∀ y', eU w 3 y (eXor (w 3 y) (1 * 2 ^ x.toNat)) 3 y' = if y' = y then eXor (w 3 y) (1 * 2 ^ x.toNat) else w 3 y' := fun y' => eU_get _ _ _ _ _
        generalize eA : eU w 3 y (eXor (w 3 y) (1 * 2 ^ x.toNat)) = wa at *
        have a2 : wa 2 = w 2 := fa 2 (by decide)
        have a4 : wa 4 = w 4 := fa 4 (by decide)
        obtain ⟨wb, d1, d2, d3, d4⟩ := y_X4_sumUp wa hHa (by rw [a2]; exact ⟨o2, o3⟩)
        have hBb : HB wb := HB_fr d2 hHa.1 (by decide)
        have b2' : wb 2 = w 2 := (d2 2 (by decide)).trans a2
        have fl2 := HB_flip hBb (x := x) (y := y) (by rw [b2']; omega) (by rw [b2']; omega)
        have g3 := zX0_flip wb x y hx hy hBb
        rw [fl2.1] at g3
        have e3 : ∀ j, eU wb 3 y (eXor (wb 3 y) (1 * 2 ^ x.toNat)) 3 j = w 3 j := fun j => by
          rw [eU_get, d2 3 (by decide)]
          by_cases c : j = y
          · rw [if_pos c, ea y, if_pos rfl, flip_back (b7 y (by omega) (by omega)) (by omega), c]
          · rw [if_neg c, ea j, if_neg c]
        have fw : Fr [25, 32] w (eU wb 3 y (eXor (wb 3 y) (1 * 2 ^ x.toNat))) := by
          intro k hk
          by_cases c : k = 3
          · subst c; funext j; exact e3 j
          · rw [eU_ne c, d2 k hk, fa k (by simp [c])]
        have ep : rX2_part32 (eU wb 3 y (eXor (wb 3 y) (1 * 2 ^ x.toNat))) what = if what = 0 then wb 32 0 else wb 32 1 := by
          unfold rX2_part32
          rw [eU_ne (by decide)]
        refine step_q (r := (1, if what = 0 then wb 32 0 else wb 32 1)) (v := 0) hI (by decide) ⟨eU wb 3 y (eXor (wb 3 y) (1 * 2 ^ x.toNat)), Cal.of (by decide +kernel) (Nat.le_of_ble_eq_true rfl) ?_, fw.mono (by decide), CA_fr fw (by decide) hC⟩ (fun u m => ?_)
        · rw [← ep]
          apply tX7_would_0 w x y what hB (wa := wa) (wb := wb) (il := 0) hx hy hw (by decide) (fun _ => hil) (fun _ => g1) (fun _ _ => d1) (fun _ => g3) <;> (intros; first | with_reducible exact ⟨rfl, rfl⟩ | contradiction | (exfalso; omega))
        · obtain ⟨m1, ⟨n1, n2, n3, n4, n5⟩, m3, m4, m5, m6, m7, m8, m9, m10, m11, m12⟩ := id m
          obtain ⟨y1, ⟨p1, p2, p3, p4, p5⟩, y3, y4, y5, y6, y7, y8, y9, y10, y11, y12⟩ := id m.z
          have ezf : ∀ j, eU (eU u 33 0 0) 38 (14 * y + x) (1 - u 38 (14 * y + x)) 38 j = if j = 14 * y + x then 1 - bitv (w 3 y) x else u 38 j := fun j => by
            rw [eU_get, m10 x y (by omega) (by omega) (by omega) (by omega), eU_ne (by decide)]
          have hMZ := flip_MZ m hH c1
          rw [eA] at hMZ
          obtain ⟨u1, z1, z2, z3, z4, z5⟩ := z_under hMZ hHa (by rw [a2]; exact ⟨o2, o3⟩)
          have h38 : u1 38 = eU (eU u 33 0 0) 38 (14 * y + x) (1 - u 38 (14 * y + x)) 38 := z2 38 (by decide)
          refine ⟨eU u1 38 (14 * y + x) (1 - u1 38 (14 * y + x)), Cal.of (by decide +kernel) (Nat.le_of_ble_eq_true rfl) ?_, ?_, fun i i1 i2 => ?_⟩
          · rw [d3, d4, ← z4, ← z5]
            apply tX8_would_0 u x y what m1 (w1 := u1) (fr := 1) (il := 0) hx hy hw (by decide) (Or.inr (by omega)) (by decide) (z_isFrame1 m hx hy o1 c1) (fun _ => z_isLast0 m hH hx hy c3) (fun _ _ => z1)
            · intro z; exfalso; omega
            · intro _ _ _ z; rw [if_pos z]; exact ⟨rfl, rfl⟩
            · intro _ _ _ z; rw [if_neg z]; exact ⟨rfl, rfl⟩
            · intro _ _ z; exfalso; omega
            · intro _ z; exfalso; omega
          · intro k hk
            by_cases c : k = 38
            · subst c
              funext j
              rw [eU_get, h38, ezf, ezf, if_pos rfl, eU_ne (by decide)]
              by_cases d : j = 14 * y + x
              · rw [if_pos d, d, m10 x y (by omega) (by omega) (by omega) (by omega)]; omega
              · rw [if_neg d, if_neg d]
            · rw [eU_ne c, z2 k (fun q => hk ((show ∀ k ∈ [33, 45, 46, 47, 48, 49, 50, 51, 52, 53], k ∈ [33, 41, 42, 43, 44, 45, 46, 47, 48, 49, 50, 51, 52, 53, 54, 55, 56, 57, 58, 59, 60] by decide) k q)), eU_ne c]
          · rw [eU_ne (by decide), z3 i (by omega), eU_ne (by decide)]
    · refine step_q (r := (1, -1)) (v := 1) hI (by decide) ?_ (fun u m => ?_)
      · obtain ⟨il, hil2, hil3⟩ : ∃ il, eI il ∧ Cal mX0_isLastInside [eR 2, (0, x), (0, y)] w (some (0, il)) w := ⟨_, eI_pI _, hil⟩
        have hHa := HH_flip hH (x := x) (y := y) (by omega) (by omega)
        have a2 : eU w 3 y (eXor (w 3 y) (1 * 2 ^ x.toNat)) 2 = w 2 := eU_ne (by decide)
        obtain ⟨wb, d1, d2, d3, d4⟩ := y_X4_sumUp _ hHa (by rw [a2]; exact ⟨o2, o3⟩)
        exact ⟨w, Cal.of (by decide +kernel) (Nat.le_of_ble_eq_true rfl) (by apply tX7_would_0 w x y what hB (wb := wb) (il := il) hx hy hw hil2 (fun _ => hil3) (fun _ => g1) (fun _ _ => d1) (fun _ => zX0_flip wb x y hx hy (HB_fr d2 hHa.1 (by decide))) <;> (intros; first | with_reducible exact ⟨rfl, rfl⟩ | contradiction | (exfalso; omega))), Fr.rf, hC⟩
      · obtain ⟨m1, ⟨n1, n2, n3, n4, n5⟩, m3, m4, m5, m6, m7, m8, m9, m10, m11, m12⟩ := id m
        refine ⟨eU u 33 0 0, Cal.of (by decide +kernel) (Nat.le_of_ble_eq_true rfl) ?_, Fr.rf, fun _ _ _ => rfl⟩
        by_cases c3 : insC w x y ∧ cnt2 w = 1
        · apply tX8_would_0 u x y what m1 (w1 := u) (fr := 1) (il := 1) hx hy hw (by decide) (Or.inr (by omega)) (by decide) (z_isFrame1 m hx hy o1 c1) (fun _ => z_isLast1 m hH hx hy c3) (fun _ q => absurd q (by decide)) <;> (intros; first | with_reducible exact ⟨rfl, rfl⟩ | contradiction | (exfalso; omega))
        · have hHa := HH_flip hH (x := x) (y := y) (by omega) (by omega)
          have a2 : eU w 3 y (eXor (w 3 y) (1 * 2 ^ x.toNat)) 2 = w 2 := eU_ne (by decide)
          obtain ⟨u1, z1, -⟩ := z_under (flip_MZ m hH c1) hHa (by rw [a2]; exact ⟨o2, o3⟩)
          apply tX8_would_0 u x y what m1 (w1 := u1) (fr := 1) (il := 0) hx hy hw (by decide) (Or.inr (by omega)) (by decide) (z_isFrame1 m hx hy o1 c1) (fun _ => z_isLast0 m hH hx hy c3) (fun _ _ => z1) <;> (intros; first | with_reducible exact ⟨rfl, rfl⟩ | contradiction | (exfalso; omega))
  · refine step_q (r := (1, -1)) (v := 1) hI (by decide) ⟨w, Cal.of (by decide +kernel) (Nat.le_of_ble_eq_true rfl) ?_, Fr.rf, hC⟩ (fun u m => ?_)
    · apply tX7_would_0 w x y what hB (wa := w) (wb := w) (wc := w) (il := 0) hx hy hw (by decide) (fun q => absurd q c1) (fun q => absurd q c1) (fun q => absurd q c1) (fun q => absurd q c1) <;> (intros; first | with_reducible exact ⟨rfl, rfl⟩ | contradiction | (exfalso; omega))
    · obtain ⟨m1, ⟨n1, n2, n3, n4, n5⟩, m3, m4, m5, m6, m7, m8, m9, m10, m11, m12⟩ := id m
      refine ⟨eU u 33 0 0, Cal.of (by decide +kernel) (Nat.le_of_ble_eq_true rfl) ?_, Fr.rf, fun _ _ _ => rfl⟩
      apply tX8_would_0 u x y what m1 (w1 := u) (fr := 0) (il := 0) hx hy hw (by decide) (Or.inl rfl) (by decide) (z_isFrame0 m hx hy c1) (fun q => absurd rfl q) (fun q => absurd rfl q) <;> (intros; first | with_reducible exact ⟨rfl, rfl⟩ | contradiction | (exfalso; omega))

