/-- stands of (m + 1) by (n + 1) cells -/
def sT (g : Int → Int → Int) (m n : Int) : eP := fun k l => ∀ x y, k ≤ x → x ≤ k + m → l ≤ y → y ≤ l + n → g x y = 1
theorem sT_sup {g : Int → Int → Int} {W H m n : Int} (hg : ∀ x y, g x y = 1 → 0 ≤ x ∧ x < W ∧ 0 ≤ y ∧ y < H) (hW : W ≤ 14) (hH : H ≤ 10) (hm : 0 ≤ m) (hn : 0 ≤ n) : sup 14 10 (sT g m n) := fun a b h => by
  have := hg a b (h a b (by omega) (by omega) (by omega) (by omega))
  omega
theorem gC_hb {w : eW} (hH : HH w) (x y : Int) : hb14 (rowAt w y) x ↔ gC w x y = 1 := by rw [hb_ins hH, gC_1]
theorem y_X4_findStands25 (w : eW) (m n : Int) (hH : HH w) (hm : 0 ≤ m ∧ m ≤ 14) (hn : 0 ≤ n ∧ n ≤ 10) : ∃ w1, Cal mX4_findStands [eR 24, eR 25, (0, m), (0, n)] w none w1 ∧ Fr [25] w w1 ∧ SB w1 25 (sT (gC w) m n) := by
  obtain ⟨⟨b1, b2, b3, b4, b5, b6⟩, b7, b8, b9⟩ := id hH.1
  have key := loop_up (P := fun y => ∀ w0, Fr [25] w w0 → (∀ j, 0 ≤ j → j < 10 → (j < y → (0 ≤ w0 25 j ∧ w0 25 j < 16384) ∧ ∀ x, hb14 (w0 25 j) x ↔ sT (gC w) m n x j) ∧ (y ≤ j → w0 25 j = 0)) → ∃ w1, Go mX4_findStands 8 [(0, eR 24), (1, eR 25), (2, (0, m)), (3, (0, n)), (4, (0, y))] [] w0 none w1 ∧ Fr [25] w w1 ∧ SB w1 25 (sT (gC w) m n)) 0 10 ?_ ?_ 0 (by omega) (by omega) (eFill w 25 10 0) (fun k hk => eFill_ne (fun z => hk (by rw [z]; decide))) (fun j h1 h2 => ⟨fun z => by omega, fun _ => by rw [eFill_at, if_pos ⟨h1, h2⟩]⟩)
  · obtain ⟨w1, k1, k2, k3⟩ := key
    exact ⟨w1, Cal.of (by decide +kernel) (Nat.le_of_ble_eq_true rfl) (tX4_findStands25_0 w m n k1), k2, k3⟩
  · intro w0 hF hI
    refine ⟨w0, ?_, hF, fun y h1 h2 => (hI y h1 h2).1 h2, sT_sup gC_in b2 b4 hm.1 hn.1⟩
    apply tX4_findStands25_8 w0 m n _ (HB_fr hF hH.1 (by decide)) hm hn (by omega)
    · intro z; omega
    · intro z; omega
    · intro _; exact ⟨rfl, rfl⟩
  · intro y hy1 hy2 ih w0 hF hI
    have hH0 : HH w0 := HH_fr hF hH (by decide)
    have e2 : w0 2 = w 2 := hF 2 (by decide)
    have eg : gC w0 = gC w := gC_fr hF (by decide)
    by_cases hyn : y + n < w 2 1
    · -- the rows together
      have sh1 := loop_up (P := fun k => ∀ sh, ((0 ≤ sh ∧ sh < 16384) ∧ ∀ x, hb14 sh x ↔ (0 ≤ x ∧ x < 14 ∧ ∀ j, y ≤ j → j < y + k → gC w x j = 1)) → ∃ s2, ((0 ≤ s2 ∧ s2 < 16384) ∧ ∀ x, hb14 s2 x ↔ (0 ≤ x ∧ x < 14 ∧ ∀ j, y ≤ j → j < y + (n + 1) → gC w x j = 1)) ∧ ∀ (r : Option eV) (w9 : eW), Go mX4_findStands 79 [(0, eR 24), (1, eR 25), (2, (0, m)), (3, (0, n)), (4, (0, y)), (5, (0, s2)), (6, (0, s2)), (7, (0, 1))] [] w0 r w9 → Go mX4_findStands 43 [(0, eR 24), (1, eR 25), (2, (0, m)), (3, (0, n)), (4, (0, y)), (5, (0, sh)), (6, (0, k))] [] w0 r w9) 1 (n + 1) ?_ ?_ 1 (by omega) (by omega) (rowAt w0 y) ⟨rowAt_b hH0.1 y, fun x => by
        rw [gC_hb hH0, eg]
        constructor
        · intro q
          have := gC_in x y q
          exact ⟨by omega, by omega, fun j h1 h2 => by rw [show j = y by omega]; exact q⟩
        · intro q; exact q.2.2 y (by omega) (by omega)⟩
      · obtain ⟨sh, s1, s2⟩ := sh1
        have fr1 := loop_up (P := fun k => ∀ fr, ((0 ≤ fr ∧ fr < 16384) ∧ ∀ x, hb14 fr x ↔ (0 ≤ x ∧ ∀ c, x ≤ c → c < x + k → hb14 sh c)) → ∃ f2, ((0 ≤ f2 ∧ f2 < 16384) ∧ ∀ x, hb14 f2 x ↔ (0 ≤ x ∧ ∀ c, x ≤ c → c < x + (m + 1) → hb14 sh c)) ∧ ∀ (r : Option eV) (w9 : eW), Go mX4_findStands 8 [(0, eR 24), (1, eR 25), (2, (0, m)), (3, (0, n)), (4, (0, y + 1))] [] (eU w0 25 y f2) r w9 → Go mX4_findStands 79 [(0, eR 24), (1, eR 25), (2, (0, m)), (3, (0, n)), (4, (0, y)), (5, (0, sh)), (6, (0, fr)), (7, (0, k))] [] w0 r w9) 1 (m + 1) ?_ ?_ 1 (by omega) (by omega) sh ⟨s1.1, fun x => ⟨fun q => ⟨q.1, fun c h1 h2 => by rw [show c = x by omega]; exact q⟩, fun q => q.2 x (by omega) (by omega)⟩⟩
        · obtain ⟨f2, f3, f4⟩ := fr1
          have hbit : ∀ x, hb14 f2 x ↔ sT (gC w) m n x y := fun x => by
            rw [f3.2 x]
            constructor
            · intro q a b h1 h2 h3 h4
              exact ((s1.2 a).mp (q.2 a h1 (by omega))).2.2 b h3 (by omega)
            · intro q
              have i0 := gC_in x y (q x y (by omega) (by omega) (by omega) (by omega))
              refine ⟨by omega, fun c h1 h2 => (s1.2 c).mpr ?_⟩
              have ic := gC_in c y (q c y h1 (by omega) (by omega) (by omega))
              exact ⟨by omega, by omega, fun j h3 h4 => q c j h1 (by omega) h3 (by omega)⟩
          obtain ⟨w1, k1, k2, k3⟩ := ih (eU w0 25 y f2) (hF.put (by decide)) (fun j h1 h2 => by
            rw [eU_get]
            by_cases hj : j = y
            · rw [if_pos hj, hj]
              exact ⟨fun _ => ⟨f3.1, hbit⟩, fun z => by omega⟩
            · rw [if_neg hj]
              exact ⟨fun z => (hI j h1 h2).1 (by omega), fun z => (hI j h1 h2).2 (by omega)⟩)
          refine ⟨w1, ?_, k2, k3⟩
          apply tX4_findStands25_8 w0 m n _ hH0.1 hm hn (by omega)
          · intro _ _; exact s2 _ _ (f4 _ _ k1)
          · intro _ z; rw [e2] at z; exact absurd hyn z
          · intro z; omega
        · intro fr hfr
          refine ⟨fr, hfr, fun r w9 h => ?_⟩
          apply tX4_findStands25_79 w0 m n _ _ _ _ hm hn (by omega) (by omega) s1.1
          · intro _; exact h
          · intro z; omega
          · intro z; omega
        · intro k hk1 hk2 ihk fr hfr
          have q0 := hb_shr (a := sh) (k := k) s1.1 (by omega)
          have q1 := hb_and hfr.1 q0.1
          obtain ⟨f2, f3, f4⟩ := ihk (eAnd fr (sh / 2 ^ k.toNat)) ⟨q1.1, fun x => by
            rw [q1.2, hfr.2, q0.2]
            constructor
            · intro z
              refine ⟨z.1.1, fun c h1 h2 => ?_⟩
              by_cases hc : c = x + k
              · rw [hc]; exact z.2.2
              · exact z.1.2 c h1 (by omega)
            · intro z
              exact ⟨⟨z.1, fun c h1 h2 => z.2 c h1 (by omega)⟩, z.1, z.2 (x + k) (by omega) (by omega)⟩⟩
          refine ⟨f2, f3, fun r w9 h => ?_⟩
          apply tX4_findStands25_79 w0 m n _ _ _ _ hm hn (by omega) (by omega) s1.1
          · intro z; omega
          · intro _ z; omega
          · intro _ _; exact f4 r w9 h
      · intro sh hsh
        refine ⟨sh, hsh, fun r w9 h => ?_⟩
        apply tX4_findStands25_43 w0 m n _ _ _ hH0.1 hm hn (by omega) (by omega)
        · intro _; exact h
        · intro z; omega
      · intro k hk1 hk2 ihk sh hsh
        have q1 := hb_and hsh.1 (rowAt_b hH0.1 (y + k))
        obtain ⟨s2, s3, s4⟩ := ihk (eAnd sh (rowAt w0 (y + k))) ⟨q1.1, fun x => by
          rw [q1.2, hsh.2, gC_hb hH0, eg]
          constructor
          · intro z
            refine ⟨z.1.1, z.1.2.1, fun j h1 h2 => ?_⟩
            by_cases hc : j = y + k
            · rw [hc]; exact z.2
            · exact z.1.2.2 j h1 (by omega)
          · intro z
            exact ⟨⟨z.1, z.2.1, fun j h1 h2 => z.2.2 j h1 (by omega)⟩, z.2.2 (y + k) (by omega) (by omega)⟩⟩
        refine ⟨s2, s3, fun r w9 h => ?_⟩
        apply tX4_findStands25_43 w0 m n _ _ _ hH0.1 hm hn (by omega) (by omega)
        · intro z; omega
        · intro _; exact s4 r w9 h
    · refine ⟨w0, ?_, hF, fun j h1 h2 => ?_, sT_sup gC_in b2 b4 hm.1 hn.1⟩
      · apply tX4_findStands25_8 w0 m n _ hH0.1 hm hn (by omega)
        · intro _ z; rw [e2] at z; exact absurd z hyn
        · intro _ _; exact ⟨rfl, rfl⟩
        · intro z; omega
      · by_cases hj : j < y
        · exact (hI j h1 h2).1 hj
        · rw [(hI j h1 h2).2 (by omega)]
          refine ⟨by omega, fun x => ⟨fun q => absurd q (hb_no0 x), fun q => ?_⟩⟩
          have := gC_in x (j + n) (q x (j + n) (by omega) (by omega) (by omega) (by omega))
          omega
theorem y_X4_findStands26 (w : eW) (m n : Int) (hH : HH w) (hm : 0 ≤ m ∧ m ≤ 14) (hn : 0 ≤ n ∧ n ≤ 10) : ∃ w1, Cal mX4_findStands [eR 24, eR 26, (0, m), (0, n)] w none w1 ∧ Fr [26] w w1 ∧ SB w1 26 (sT (gC w) m n) := by
  obtain ⟨⟨b1, b2, b3, b4, b5, b6⟩, b7, b8, b9⟩ := id hH.1
  have key := loop_up (P := fun y => ∀ w0, Fr [26] w w0 → (∀ j, 0 ≤ j → j < 10 → (j < y → (0 ≤ w0 26 j ∧ w0 26 j < 16384) ∧ ∀ x, hb14 (w0 26 j) x ↔ sT (gC w) m n x j) ∧ (y ≤ j → w0 26 j = 0)) → ∃ w1, Go mX4_findStands 8 [(0, eR 24), (1, eR 26), (2, (0, m)), (3, (0, n)), (4, (0, y))] [] w0 none w1 ∧ Fr [26] w w1 ∧ SB w1 26 (sT (gC w) m n)) 0 10 ?_ ?_ 0 (by omega) (by omega) (eFill w 26 10 0) (fun k hk => eFill_ne (fun z => hk (by rw [z]; decide))) (fun j h1 h2 => ⟨fun z => by omega, fun _ => by rw [eFill_at, if_pos ⟨h1, h2⟩]⟩)
  · obtain ⟨w1, k1, k2, k3⟩ := key
    exact ⟨w1, Cal.of (by decide +kernel) (Nat.le_of_ble_eq_true rfl) (tX4_findStands26_0 w m n k1), k2, k3⟩
  · intro w0 hF hI
    refine ⟨w0, ?_, hF, fun y h1 h2 => (hI y h1 h2).1 h2, sT_sup gC_in b2 b4 hm.1 hn.1⟩
    apply tX4_findStands26_8 w0 m n _ (HB_fr hF hH.1 (by decide)) hm hn (by omega)
    · intro z; omega
    · intro z; omega
    · intro _; exact ⟨rfl, rfl⟩
  · intro y hy1 hy2 ih w0 hF hI
    have hH0 : HH w0 := HH_fr hF hH (by decide)
    have e2 : w0 2 = w 2 := hF 2 (by decide)
    have eg : gC w0 = gC w := gC_fr hF (by decide)
    by_cases hyn : y + n < w 2 1
    · -- the rows together
      have sh1 := loop_up (P := fun k => ∀ sh, ((0 ≤ sh ∧ sh < 16384) ∧ ∀ x, hb14 sh x ↔ (0 ≤ x ∧ x < 14 ∧ ∀ j, y ≤ j → j < y + k → gC w x j = 1)) → ∃ s2, ((0 ≤ s2 ∧ s2 < 16384) ∧ ∀ x, hb14 s2 x ↔ (0 ≤ x ∧ x < 14 ∧ ∀ j, y ≤ j → j < y + (n + 1) → gC w x j = 1)) ∧ ∀ (r : Option eV) (w9 : eW), Go mX4_findStands 79 [(0, eR 24), (1, eR 26), (2, (0, m)), (3, (0, n)), (4, (0, y)), (5, (0, s2)), (6, (0, s2)), (7, (0, 1))] [] w0 r w9 → Go mX4_findStands 43 [(0, eR 24), (1, eR 26), (2, (0, m)), (3, (0, n)), (4, (0, y)), (5, (0, sh)), (6, (0, k))] [] w0 r w9) 1 (n + 1) ?_ ?_ 1 (by omega) (by omega) (rowAt w0 y) ⟨rowAt_b hH0.1 y, fun x => by
        rw [gC_hb hH0, eg]
        constructor
        · intro q
          have := gC_in x y q
          exact ⟨by omega, by omega, fun j h1 h2 => by rw [show j = y by omega]; exact q⟩
        · intro q; exact q.2.2 y (by omega) (by omega)⟩
      · obtain ⟨sh, s1, s2⟩ := sh1
        have fr1 := loop_up (P := fun k => ∀ fr, ((0 ≤ fr ∧ fr < 16384) ∧ ∀ x, hb14 fr x ↔ (0 ≤ x ∧ ∀ c, x ≤ c → c < x + k → hb14 sh c)) → ∃ f2, ((0 ≤ f2 ∧ f2 < 16384) ∧ ∀ x, hb14 f2 x ↔ (0 ≤ x ∧ ∀ c, x ≤ c → c < x + (m + 1) → hb14 sh c)) ∧ ∀ (r : Option eV) (w9 : eW), Go mX4_findStands 8 [(0, eR 24), (1, eR 26), (2, (0, m)), (3, (0, n)), (4, (0, y + 1))] [] (eU w0 26 y f2) r w9 → Go mX4_findStands 79 [(0, eR 24), (1, eR 26), (2, (0, m)), (3, (0, n)), (4, (0, y)), (5, (0, sh)), (6, (0, fr)), (7, (0, k))] [] w0 r w9) 1 (m + 1) ?_ ?_ 1 (by omega) (by omega) sh ⟨s1.1, fun x => ⟨fun q => ⟨q.1, fun c h1 h2 => by rw [show c = x by omega]; exact q⟩, fun q => q.2 x (by omega) (by omega)⟩⟩
        · obtain ⟨f2, f3, f4⟩ := fr1
          have hbit : ∀ x, hb14 f2 x ↔ sT (gC w) m n x y := fun x => by
            rw [f3.2 x]
            constructor
            · intro q a b h1 h2 h3 h4
              exact ((s1.2 a).mp (q.2 a h1 (by omega))).2.2 b h3 (by omega)
            · intro q
              have i0 := gC_in x y (q x y (by omega) (by omega) (by omega) (by omega))
              refine ⟨by omega, fun c h1 h2 => (s1.2 c).mpr ?_⟩
              have ic := gC_in c y (q c y h1 (by omega) (by omega) (by omega))
              exact ⟨by omega, by omega, fun j h3 h4 => q c j h1 (by omega) h3 (by omega)⟩
          obtain ⟨w1, k1, k2, k3⟩ := ih (eU w0 26 y f2) (hF.put (by decide)) (fun j h1 h2 => by
            rw [eU_get]
            by_cases hj : j = y
            · rw [if_pos hj, hj]
              exact ⟨fun _ => ⟨f3.1, hbit⟩, fun z => by omega⟩
            · rw [if_neg hj]
              exact ⟨fun z => (hI j h1 h2).1 (by omega), fun z => (hI j h1 h2).2 (by omega)⟩)
          refine ⟨w1, ?_, k2, k3⟩
          apply tX4_findStands26_8 w0 m n _ hH0.1 hm hn (by omega)
          · intro _ _; exact s2 _ _ (f4 _ _ k1)
          · intro _ z; rw [e2] at z; exact absurd hyn z
          · intro z; omega
        · intro fr hfr
          refine ⟨fr, hfr, fun r w9 h => ?_⟩
          apply tX4_findStands26_79 w0 m n _ _ _ _ hm hn (by omega) (by omega) s1.1
          · intro _; exact h
          · intro z; omega
          · intro z; omega
        · intro k hk1 hk2 ihk fr hfr
          have q0 := hb_shr (a := sh) (k := k) s1.1 (by omega)
          have q1 := hb_and hfr.1 q0.1
          obtain ⟨f2, f3, f4⟩ := ihk (eAnd fr (sh / 2 ^ k.toNat)) ⟨q1.1, fun x => by
            rw [q1.2, hfr.2, q0.2]
            constructor
            · intro z
              refine ⟨z.1.1, fun c h1 h2 => ?_⟩
              by_cases hc : c = x + k
              · rw [hc]; exact z.2.2
              · exact z.1.2 c h1 (by omega)
            · intro z
              exact ⟨⟨z.1, fun c h1 h2 => z.2 c h1 (by omega)⟩, z.1, z.2 (x + k) (by omega) (by omega)⟩⟩
          refine ⟨f2, f3, fun r w9 h => ?_⟩
          apply tX4_findStands26_79 w0 m n _ _ _ _ hm hn (by omega) (by omega) s1.1
          · intro z; omega
          · intro _ z; omega
          · intro _ _; exact f4 r w9 h
      · intro sh hsh
        refine ⟨sh, hsh, fun r w9 h => ?_⟩
        apply tX4_findStands26_43 w0 m n _ _ _ hH0.1 hm hn (by omega) (by omega)
        · intro _; exact h
        · intro z; omega
      · intro k hk1 hk2 ihk sh hsh
        have q1 := hb_and hsh.1 (rowAt_b hH0.1 (y + k))
        obtain ⟨s2, s3, s4⟩ := ihk (eAnd sh (rowAt w0 (y + k))) ⟨q1.1, fun x => by
          rw [q1.2, hsh.2, gC_hb hH0, eg]
          constructor
          · intro z
            refine ⟨z.1.1, z.1.2.1, fun j h1 h2 => ?_⟩
            by_cases hc : j = y + k
            · rw [hc]; exact z.2
            · exact z.1.2.2 j h1 (by omega)
          · intro z
            exact ⟨⟨z.1, z.2.1, fun j h1 h2 => z.2.2 j h1 (by omega)⟩, z.2.2 (y + k) (by omega) (by omega)⟩⟩
        refine ⟨s2, s3, fun r w9 h => ?_⟩
        apply tX4_findStands26_43 w0 m n _ _ _ hH0.1 hm hn (by omega) (by omega)
        · intro z; omega
        · intro _; exact s4 r w9 h
    · refine ⟨w0, ?_, hF, fun j h1 h2 => ?_, sT_sup gC_in b2 b4 hm.1 hn.1⟩
      · apply tX4_findStands26_8 w0 m n _ hH0.1 hm hn (by omega)
        · intro _ z; rw [e2] at z; exact absurd z hyn
        · intro _ _; exact ⟨rfl, rfl⟩
        · intro z; omega
      · by_cases hj : j < y
        · exact (hI j h1 h2).1 hj
        · rw [(hI j h1 h2).2 (by omega)]
          refine ⟨by omega, fun x => ⟨fun q => absurd q (hb_no0 x), fun q => ?_⟩⟩
          have := gC_in x (j + n) (q x (j + n) (by omega) (by omega) (by omega) (by omega))
          omega
/-- F-neighbours of C are in C -/
def cl (F C : eP) : Prop := ∀ a b c d, C a b → F c d → adj a b c d → C c d
/-- the row y of what is taken, grown -/
def nrP (t F : eP) (y x : Int) : Prop := F x y ∧ (t x y ∨ t (x - 1) y ∨ t (x + 1) y ∨ t x (y - 1) ∨ t x (y + 1))
theorem y_X4_growPart25 (w : eW) {F t : eP} (hF : SB w 25 F) (ht : SB w 27 t) (hs : ∀ a b, t a b → F a b) : ∃ w1 gg t1, Cal mX4_growPart [eR 25, eR 27] w (some (0, gg)) w1 ∧ Fr [27] w w1 ∧ (gg = 0 ∨ gg = 1) ∧ SB w1 27 t1 ∧ (∀ a b, t a b → t1 a b) ∧ (∀ a b, t1 a b → F a b) ∧ (∀ C, cl F C → (∀ a b, t a b → C a b) → ∀ a b, t1 a b → C a b) ∧ (gg = 0 → cl F t ∧ ∀ a b, t1 a b → t a b) ∧ (gg = 1 → ∃ a b, t1 a b ∧ ¬ t a b) := by
  have key := loop_up (P := fun y => ∀ w0 gr t1, Fr [27] w w0 → (gr = 0 ∨ gr = 1) → SB w0 27 t1 → (∀ a b, t a b → t1 a b) → (∀ a b, t1 a b → F a b) → (∀ C, cl F C → (∀ a b, t a b → C a b) → ∀ a b, t1 a b → C a b) → (gr = 0 → (∀ a b, t1 a b → t a b) ∧ ∀ x j, j < y → nrP t F j x → t x j) → (gr = 1 → ∃ a b, t1 a b ∧ ¬ t a b) → ∃ w1 gg t2, Go mX4_growPart 4 [(0, eR 25), (1, eR 27), (2, (0, gr)), (3, (0, y))] [] w0 (some (0, gg)) w1 ∧ Fr [27] w w1 ∧ (gg = 0 ∨ gg = 1) ∧ SB w1 27 t2 ∧ (∀ a b, t a b → t2 a b) ∧ (∀ a b, t2 a b → F a b) ∧ (∀ C, cl F C → (∀ a b, t a b → C a b) → ∀ a b, t2 a b → C a b) ∧ (gg = 0 → cl F t ∧ ∀ a b, t2 a b → t a b) ∧ (gg = 1 → ∃ a b, t2 a b ∧ ¬ t a b)) 0 10 ?_ ?_ 0 (by omega) (by omega) w 0 t Fr.rf (Or.inl rfl) ht (fun _ _ h => h) hs (fun C _ h => h) (fun _ => ⟨fun _ _ h => h, fun x j h1 h2 => by have h3 := hF.2 x j h2.1; omega⟩) (fun z => absurd z (by decide))
  · obtain ⟨w1, gg, t2, k1, k2⟩ := key
    exact ⟨w1, gg, t2, Cal.of (by decide +kernel) (Nat.le_of_ble_eq_true rfl) (tX4_growPart25_0 w k1), k2⟩
  · intro w0 gr t1 f0 hg h1 h2 h3 h4 h5 h6
    refine ⟨w0, gr, t1, ?_, f0, hg, h1, h2, h3, h4, fun z => ⟨fun a b c d q1 q2 q3 => ?_, (h5 z).1⟩, h6⟩
    · apply tX4_growPart25_4 w0 _ _ hg (by omega) (SB_b h1)
      all_goals (intro z; first | (exfalso; omega) | exact ⟨rfl, rfl⟩)
    · have hd := hF.2 c d q2
      refine (h5 z).2 c d (by omega) ⟨q2, ?_⟩
      rcases q3 with ⟨rfl, rfl | rfl⟩ | ⟨rfl, rfl | rfl⟩
      · right; right; right; left; rw [show b + 1 - 1 = b by omega]; exact q1
      · right; right; right; right; rw [show b - 1 + 1 = b by omega]; exact q1
      · right; left; rw [show a + 1 - 1 = a by omega]; exact q1
      · right; right; left; rw [show a - 1 + 1 = a by omega]; exact q1
  · intro y hy1 hy2 ih w0 gr t1 f0 hg h1 h2 h3 h4 h5 h6
    have hF0 : SB w0 25 F := SB_fr f0 (by decide) hF
    have ty := h1.1 y hy1 hy2
    have fy := hF0.1 y hy1 hy2
    -- one row
    have one : ∀ nr, (0 ≤ nr ∧ nr < 16384) → (∀ x, hb14 nr x ↔ nrP t1 F y x) → ∃ w1 gg t2, Go mX4_growPart 81 [(0, eR 25), (1, eR 27), (2, (0, gr)), (3, (0, y)), (4, (0, nr))] [] w0 (some (0, gg)) w1 ∧ Fr [27] w w1 ∧ (gg = 0 ∨ gg = 1) ∧ SB w1 27 t2 ∧ (∀ a b, t a b → t2 a b) ∧ (∀ a b, t2 a b → F a b) ∧ (∀ C, cl F C → (∀ a b, t a b → C a b) → ∀ a b, t2 a b → C a b) ∧ (gg = 0 → cl F t ∧ ∀ a b, t2 a b → t a b) ∧ (gg = 1 → ∃ a b, t2 a b ∧ ¬ t a b) := by
      intro nr n1 n2
      have hsub : ∀ x, t1 x y → nrP t1 F y x := fun x q => ⟨h3 x y q, Or.inl q⟩
      -- what is taken then
      have b1 : SB (eU w0 27 y nr) 27 (fun a b => if b = y then nrP t1 F y a else t1 a b) := by
        refine ⟨fun j j1 j2 => ?_, fun a b q => ?_⟩
        · rw [eU_get]
          by_cases hj : j = y
          · rw [if_pos hj]
            refine ⟨n1, fun x => ?_⟩
            show _ ↔ if j = y then nrP t1 F y x else t1 x j
            rw [if_pos hj]
            exact n2 x
          · rw [if_neg hj]
            refine ⟨(h1.1 j j1 j2).1, fun x => ?_⟩
            show _ ↔ if j = y then nrP t1 F y x else t1 x j
            rw [if_neg hj]
            exact (h1.1 j j1 j2).2 x
        · have q : (if b = y then nrP t1 F y a else t1 a b) := q
          by_cases hb : b = y
          · rw [if_pos hb] at q
            rw [hb]
            exact hF.2 a y q.1
          · rw [if_neg hb] at q
            exact h1.2 a b q
      have b2 : ∀ a b, t a b → (if b = y then nrP t1 F y a else t1 a b) := fun a b q => by
        by_cases hb : b = y
        · rw [if_pos hb]; rw [hb] at q; exact hsub a (h2 a y q)
        · rw [if_neg hb]; exact h2 a b q
      have b3 : ∀ a b, (if b = y then nrP t1 F y a else t1 a b) → F a b := fun a b q => by
        by_cases hb : b = y
        · rw [if_pos hb] at q; rw [hb]; exact q.1
        · rw [if_neg hb] at q; exact h3 a b q
      have b4 : ∀ C, cl F C → (∀ a b, t a b → C a b) → ∀ a b, (if b = y then nrP t1 F y a else t1 a b) → C a b := fun C c1 c2 a b q => by
        by_cases hb : b = y
        · rw [if_pos hb] at q
          rw [hb]
          have c4 := h4 C c1 c2
          rcases q.2 with q2 | q2 | q2 | q2 | q2
          · exact c4 _ _ q2
          · exact c1 _ _ _ _ (c4 _ _ q2) q.1 (by unfold adj; omega)
          · exact c1 _ _ _ _ (c4 _ _ q2) q.1 (by unfold adj; omega)
          · exact c1 _ _ _ _ (c4 _ _ q2) q.1 (by unfold adj; omega)
          · exact c1 _ _ _ _ (c4 _ _ q2) q.1 (by unfold adj; omega)
        · rw [if_neg hb] at q; exact h4 C c1 c2 a b q
      by_cases hc : gr = 0 ∧ nr = w0 27 y
      · -- nothing new
        have same : ∀ x, nrP t1 F y x ↔ t1 x y := fun x => by rw [← n2 x, hc.2]; exact ty.2 x
        obtain ⟨w1, gg, t2, k1, k2⟩ := ih (eU w0 27 y nr) 0 _ (f0.put (by decide)) (Or.inl rfl) b1 b2 b3 b4 (fun _ => ⟨fun a b q => by
          by_cases hb : b = y
          · rw [if_pos hb] at q; rw [hb]; exact (h5 hc.1).1 a y ((same a).mp q)
          · rw [if_neg hb] at q; exact (h5 hc.1).1 a b q, fun x j j1 j2 => by
          by_cases hj : j = y
          · rw [hj] at j2 ⊢
            refine (h5 hc.1).1 x y ((same x).mp ⟨j2.1, ?_⟩)
            rcases j2.2 with q2 | q2 | q2 | q2 | q2
            · exact Or.inl (h2 _ _ q2)
            · exact Or.inr (Or.inl (h2 _ _ q2))
            · exact Or.inr (Or.inr (Or.inl (h2 _ _ q2)))
            · exact Or.inr (Or.inr (Or.inr (Or.inl (h2 _ _ q2))))
            · exact Or.inr (Or.inr (Or.inr (Or.inr (h2 _ _ q2))))
          · exact (h5 hc.1).2 x j (by omega) j2⟩) (fun z => absurd z (by decide))
        refine ⟨w1, gg, t2, ?_, k2⟩
        apply tX4_growPart25_81 w0 _ _ _ hg (by omega) (by omega) ty.1
        · intro _ _; exact k1
        · intro _ z; exact absurd hc.2 z
        · intro z; exact absurd hc.1 z
      · obtain ⟨w1, gg, t2, k1, k2⟩ := ih (eU w0 27 y nr) 1 _ (f0.put (by decide)) (Or.inr rfl) b1 b2 b3 b4 (fun z => absurd z (by decide)) (fun _ => by
          by_cases hg1 : gr = 0
          · have hne : ¬ nr = w0 27 y := fun z => hc ⟨hg1, z⟩
            have : ∃ x, nrP t1 F y x ∧ ¬ t1 x y := Classical.byContradiction fun z => hne (hb_ext n1 ty.1 (fun x => by
              rw [n2 x, ty.2 x]
              exact ⟨fun q => Classical.byContradiction fun z2 => z ⟨x, q, z2⟩, hsub x⟩))
            obtain ⟨x, q1, q2⟩ := this
            exact ⟨x, y, by rw [if_pos rfl]; exact q1, fun q => q2 (h2 x y q)⟩
          · obtain ⟨a, b, q1, q2⟩ := h6 (by omega)
            refine ⟨a, b, ?_, q2⟩
            by_cases hb : b = y
            · rw [if_pos hb]; rw [hb] at q1; exact hsub a q1
            · rw [if_neg hb]; exact q1)
        refine ⟨w1, gg, t2, ?_, k2⟩
        apply tX4_growPart25_81 w0 _ _ _ hg (by omega) (by omega) ty.1
        · intro z1 z2; exact absurd ⟨z1, z2⟩ hc
        · intro _ _; exact k1
        · intro _; exact k1
    have nn : ∀ i, hb14 (w0 27 y) i ↔ t1 i y := ty.2
    have out1 : ∀ x, ¬ t1 x (-1) := fun x q => by have := h1.2 _ _ q; omega
    have out2 : ∀ x, ¬ t1 x 10 := fun x q => by have := h1.2 _ _ q; omega
    by_cases c1 : 0 < y
    · have ta := h1.1 (y - 1) (by omega) (by omega)
      by_cases c2 : y + 1 < 10
      · have tb := h1.1 (y + 1) (by omega) c2
        have hn := hb_near ty.1 ta.1 tb.1 fy.1
        obtain ⟨w1, gg, t2, k1, k2⟩ := one _ hn.1 (fun x => by rw [hn.2, fy.2, ty.2, ty.2, ty.2, ta.2, tb.2]; exact Iff.rfl)
        refine ⟨w1, gg, t2, ?_, k2⟩
        apply tX4_growPart25_4 w0 _ _ hg (by omega) (SB_b h1)
        all_goals (intros; first | with_reducible exact k1 | (exfalso; omega))
      · have hn := hb_near ty.1 ta.1 (show (0 : Int) ≤ 0 ∧ (0 : Int) < 16384 by decide) fy.1
        obtain ⟨w1, gg, t2, k1, k2⟩ := one _ hn.1 (fun x => by
          rw [hn.2, fy.2, ty.2, ty.2, ty.2, ta.2]
          unfold nrP
          rw [show y + 1 = 10 by omega]
          have := out2 x
          have := hb_no0 x
          simp only [*])
        refine ⟨w1, gg, t2, ?_, k2⟩
        apply tX4_growPart25_4 w0 _ _ hg (by omega) (SB_b h1)
        all_goals (intros; first | with_reducible exact k1 | (exfalso; omega))
    · have y0 : y = 0 := by omega
      have tb := h1.1 (y + 1) (by omega) (by omega)
      have hn := hb_near ty.1 (show (0 : Int) ≤ 0 ∧ (0 : Int) < 16384 by decide) tb.1 fy.1
      obtain ⟨w1, gg, t2, k1, k2⟩ := one _ hn.1 (fun x => by
        rw [hn.2, fy.2, ty.2, ty.2, ty.2, tb.2]
        unfold nrP
        rw [show y - 1 = -1 by omega]
        have := out1 x
        have := hb_no0 x
        simp only [*])
      refine ⟨w1, gg, t2, ?_, k2⟩
      apply tX4_growPart25_4 w0 _ _ hg (by omega) (SB_b h1)
      all_goals (intros; first | with_reducible exact k1 | (exfalso; omega))
theorem y_X4_growPart29 (w : eW) {F t : eP} (hF : SB w 29 F) (ht : SB w 28 t) (hs : ∀ a b, t a b → F a b) : ∃ w1 gg t1, Cal mX4_growPart [eR 29, eR 28] w (some (0, gg)) w1 ∧ Fr [28] w w1 ∧ (gg = 0 ∨ gg = 1) ∧ SB w1 28 t1 ∧ (∀ a b, t a b → t1 a b) ∧ (∀ a b, t1 a b → F a b) ∧ (∀ C, cl F C → (∀ a b, t a b → C a b) → ∀ a b, t1 a b → C a b) ∧ (gg = 0 → cl F t ∧ ∀ a b, t1 a b → t a b) ∧ (gg = 1 → ∃ a b, t1 a b ∧ ¬ t a b) := by
  have key := loop_up (P := fun y => ∀ w0 gr t1, Fr [28] w w0 → (gr = 0 ∨ gr = 1) → SB w0 28 t1 → (∀ a b, t a b → t1 a b) → (∀ a b, t1 a b → F a b) → (∀ C, cl F C → (∀ a b, t a b → C a b) → ∀ a b, t1 a b → C a b) → (gr = 0 → (∀ a b, t1 a b → t a b) ∧ ∀ x j, j < y → nrP t F j x → t x j) → (gr = 1 → ∃ a b, t1 a b ∧ ¬ t a b) → ∃ w1 gg t2, Go mX4_growPart 4 [(0, eR 29), (1, eR 28), (2, (0, gr)), (3, (0, y))] [] w0 (some (0, gg)) w1 ∧ Fr [28] w w1 ∧ (gg = 0 ∨ gg = 1) ∧ SB w1 28 t2 ∧ (∀ a b, t a b → t2 a b) ∧ (∀ a b, t2 a b → F a b) ∧ (∀ C, cl F C → (∀ a b, t a b → C a b) → ∀ a b, t2 a b → C a b) ∧ (gg = 0 → cl F t ∧ ∀ a b, t2 a b → t a b) ∧ (gg = 1 → ∃ a b, t2 a b ∧ ¬ t a b)) 0 10 ?_ ?_ 0 (by omega) (by omega) w 0 t Fr.rf (Or.inl rfl) ht (fun _ _ h => h) hs (fun C _ h => h) (fun _ => ⟨fun _ _ h => h, fun x j h1 h2 => by have h3 := hF.2 x j h2.1; omega⟩) (fun z => absurd z (by decide))
  · obtain ⟨w1, gg, t2, k1, k2⟩ := key
    exact ⟨w1, gg, t2, Cal.of (by decide +kernel) (Nat.le_of_ble_eq_true rfl) (tX4_growPart29_0 w k1), k2⟩
  · intro w0 gr t1 f0 hg h1 h2 h3 h4 h5 h6
    refine ⟨w0, gr, t1, ?_, f0, hg, h1, h2, h3, h4, fun z => ⟨fun a b c d q1 q2 q3 => ?_, (h5 z).1⟩, h6⟩
    · apply tX4_growPart29_4 w0 _ _ hg (by omega) (SB_b h1)
      all_goals (intro z; first | (exfalso; omega) | exact ⟨rfl, rfl⟩)
    · have hd := hF.2 c d q2
      refine (h5 z).2 c d (by omega) ⟨q2, ?_⟩
      rcases q3 with ⟨rfl, rfl | rfl⟩ | ⟨rfl, rfl | rfl⟩
      · right; right; right; left; rw [show b + 1 - 1 = b by omega]; exact q1
      · right; right; right; right; rw [show b - 1 + 1 = b by omega]; exact q1
      · right; left; rw [show a + 1 - 1 = a by omega]; exact q1
      · right; right; left; rw [show a - 1 + 1 = a by omega]; exact q1
  · intro y hy1 hy2 ih w0 gr t1 f0 hg h1 h2 h3 h4 h5 h6
    have hF0 : SB w0 29 F := SB_fr f0 (by decide) hF
    have ty := h1.1 y hy1 hy2
    have fy := hF0.1 y hy1 hy2
    -- one row
    have one : ∀ nr, (0 ≤ nr ∧ nr < 16384) → (∀ x, hb14 nr x ↔ nrP t1 F y x) → ∃ w1 gg t2, Go mX4_growPart 81 [(0, eR 29), (1, eR 28), (2, (0, gr)), (3, (0, y)), (4, (0, nr))] [] w0 (some (0, gg)) w1 ∧ Fr [28] w w1 ∧ (gg = 0 ∨ gg = 1) ∧ SB w1 28 t2 ∧ (∀ a b, t a b → t2 a b) ∧ (∀ a b, t2 a b → F a b) ∧ (∀ C, cl F C → (∀ a b, t a b → C a b) → ∀ a b, t2 a b → C a b) ∧ (gg = 0 → cl F t ∧ ∀ a b, t2 a b → t a b) ∧ (gg = 1 → ∃ a b, t2 a b ∧ ¬ t a b) := by
      intro nr n1 n2
      have hsub : ∀ x, t1 x y → nrP t1 F y x := fun x q => ⟨h3 x y q, Or.inl q⟩
      -- what is taken then
      have b1 : SB (eU w0 28 y nr) 28 (fun a b => if b = y then nrP t1 F y a else t1 a b) := by
        refine ⟨fun j j1 j2 => ?_, fun a b q => ?_⟩
        · rw [eU_get]
          by_cases hj : j = y
          · rw [if_pos hj]
            refine ⟨n1, fun x => ?_⟩
            show _ ↔ if j = y then nrP t1 F y x else t1 x j
            rw [if_pos hj]
            exact n2 x
          · rw [if_neg hj]
            refine ⟨(h1.1 j j1 j2).1, fun x => ?_⟩
            show _ ↔ if j = y then nrP t1 F y x else t1 x j
            rw [if_neg hj]
            exact (h1.1 j j1 j2).2 x
        · have q : (if b = y then nrP t1 F y a else t1 a b) := q
          by_cases hb : b = y
          · rw [if_pos hb] at q
            rw [hb]
            exact hF.2 a y q.1
          · rw [if_neg hb] at q
            exact h1.2 a b q
      have b2 : ∀ a b, t a b → (if b = y then nrP t1 F y a else t1 a b) := fun a b q => by
        by_cases hb : b = y
        · rw [if_pos hb]; rw [hb] at q; exact hsub a (h2 a y q)
        · rw [if_neg hb]; exact h2 a b q
      have b3 : ∀ a b, (if b = y then nrP t1 F y a else t1 a b) → F a b := fun a b q => by
        by_cases hb : b = y
        · rw [if_pos hb] at q; rw [hb]; exact q.1
        · rw [if_neg hb] at q; exact h3 a b q
      have b4 : ∀ C, cl F C → (∀ a b, t a b → C a b) → ∀ a b, (if b = y then nrP t1 F y a else t1 a b) → C a b := fun C c1 c2 a b q => by
        by_cases hb : b = y
        · rw [if_pos hb] at q
          rw [hb]
          have c4 := h4 C c1 c2
          rcases q.2 with q2 | q2 | q2 | q2 | q2
          · exact c4 _ _ q2
          · exact c1 _ _ _ _ (c4 _ _ q2) q.1 (by unfold adj; omega)
          · exact c1 _ _ _ _ (c4 _ _ q2) q.1 (by unfold adj; omega)
          · exact c1 _ _ _ _ (c4 _ _ q2) q.1 (by unfold adj; omega)
          · exact c1 _ _ _ _ (c4 _ _ q2) q.1 (by unfold adj; omega)
        · rw [if_neg hb] at q; exact h4 C c1 c2 a b q
      by_cases hc : gr = 0 ∧ nr = w0 28 y
      · -- nothing new
        have same : ∀ x, nrP t1 F y x ↔ t1 x y := fun x => by rw [← n2 x, hc.2]; exact ty.2 x
        obtain ⟨w1, gg, t2, k1, k2⟩ := ih (eU w0 28 y nr) 0 _ (f0.put (by decide)) (Or.inl rfl) b1 b2 b3 b4 (fun _ => ⟨fun a b q => by
          by_cases hb : b = y
          · rw [if_pos hb] at q; rw [hb]; exact (h5 hc.1).1 a y ((same a).mp q)
          · rw [if_neg hb] at q; exact (h5 hc.1).1 a b q, fun x j j1 j2 => by
          by_cases hj : j = y
          · rw [hj] at j2 ⊢
            refine (h5 hc.1).1 x y ((same x).mp ⟨j2.1, ?_⟩)
            rcases j2.2 with q2 | q2 | q2 | q2 | q2
            · exact Or.inl (h2 _ _ q2)
            · exact Or.inr (Or.inl (h2 _ _ q2))
            · exact Or.inr (Or.inr (Or.inl (h2 _ _ q2)))
            · exact Or.inr (Or.inr (Or.inr (Or.inl (h2 _ _ q2))))
            · exact Or.inr (Or.inr (Or.inr (Or.inr (h2 _ _ q2))))
          · exact (h5 hc.1).2 x j (by omega) j2⟩) (fun z => absurd z (by decide))
        refine ⟨w1, gg, t2, ?_, k2⟩
        apply tX4_growPart29_81 w0 _ _ _ hg (by omega) (by omega) ty.1
        · intro _ _; exact k1
        · intro _ z; exact absurd hc.2 z
        · intro z; exact absurd hc.1 z
      · obtain ⟨w1, gg, t2, k1, k2⟩ := ih (eU w0 28 y nr) 1 _ (f0.put (by decide)) (Or.inr rfl) b1 b2 b3 b4 (fun z => absurd z (by decide)) (fun _ => by
          by_cases hg1 : gr = 0
          · have hne : ¬ nr = w0 28 y := fun z => hc ⟨hg1, z⟩
            have : ∃ x, nrP t1 F y x ∧ ¬ t1 x y := Classical.byContradiction fun z => hne (hb_ext n1 ty.1 (fun x => by
              rw [n2 x, ty.2 x]
              exact ⟨fun q => Classical.byContradiction fun z2 => z ⟨x, q, z2⟩, hsub x⟩))
            obtain ⟨x, q1, q2⟩ := this
            exact ⟨x, y, by rw [if_pos rfl]; exact q1, fun q => q2 (h2 x y q)⟩
          · obtain ⟨a, b, q1, q2⟩ := h6 (by omega)
            refine ⟨a, b, ?_, q2⟩
            by_cases hb : b = y
            · rw [if_pos hb]; rw [hb] at q1; exact hsub a q1
            · rw [if_neg hb]; exact q1)
        refine ⟨w1, gg, t2, ?_, k2⟩
        apply tX4_growPart29_81 w0 _ _ _ hg (by omega) (by omega) ty.1
        · intro z1 z2; exact absurd ⟨z1, z2⟩ hc
        · intro _ _; exact k1
        · intro _; exact k1
    have nn : ∀ i, hb14 (w0 28 y) i ↔ t1 i y := ty.2
    have out1 : ∀ x, ¬ t1 x (-1) := fun x q => by have := h1.2 _ _ q; omega
    have out2 : ∀ x, ¬ t1 x 10 := fun x q => by have := h1.2 _ _ q; omega
    by_cases c1 : 0 < y
    · have ta := h1.1 (y - 1) (by omega) (by omega)
      by_cases c2 : y + 1 < 10
      · have tb := h1.1 (y + 1) (by omega) c2
        have hn := hb_near ty.1 ta.1 tb.1 fy.1
        obtain ⟨w1, gg, t2, k1, k2⟩ := one _ hn.1 (fun x => by rw [hn.2, fy.2, ty.2, ty.2, ty.2, ta.2, tb.2]; exact Iff.rfl)
        refine ⟨w1, gg, t2, ?_, k2⟩
        apply tX4_growPart29_4 w0 _ _ hg (by omega) (SB_b h1)
        all_goals (intros; first | with_reducible exact k1 | (exfalso; omega))
      · have hn := hb_near ty.1 ta.1 (show (0 : Int) ≤ 0 ∧ (0 : Int) < 16384 by decide) fy.1
        obtain ⟨w1, gg, t2, k1, k2⟩ := one _ hn.1 (fun x => by
          rw [hn.2, fy.2, ty.2, ty.2, ty.2, ta.2]
          unfold nrP
          rw [show y + 1 = 10 by omega]
          have := out2 x
          have := hb_no0 x
          simp only [*])
        refine ⟨w1, gg, t2, ?_, k2⟩
        apply tX4_growPart29_4 w0 _ _ hg (by omega) (SB_b h1)
        all_goals (intros; first | with_reducible exact k1 | (exfalso; omega))
    · have y0 : y = 0 := by omega
      have tb := h1.1 (y + 1) (by omega) (by omega)
      have hn := hb_near ty.1 (show (0 : Int) ≤ 0 ∧ (0 : Int) < 16384 by decide) tb.1 fy.1
      obtain ⟨w1, gg, t2, k1, k2⟩ := one _ hn.1 (fun x => by
        rw [hn.2, fy.2, ty.2, ty.2, ty.2, tb.2]
        unfold nrP
        rw [show y - 1 = -1 by omega]
        have := out1 x
        have := hb_no0 x
        simp only [*])
      refine ⟨w1, gg, t2, ?_, k2⟩
      apply tX4_growPart29_4 w0 _ _ hg (by omega) (SB_b h1)
      all_goals (intros; first | with_reducible exact k1 | (exfalso; omega))
