theorem FM.put20 {q pl : Int} {u : eW} (h : FM q pl u) : FM q pl (eU u 33 20 1) := by
  have g : ∀ i, i ≠ 20 → eU u 33 20 1 33 i = u 33 i := fun i hi => by rw [eU_get, if_neg hi]
  unfold FM TKB MO7
  rw [g 7 (by decide), g 8 (by decide), g 9 (by decide), g 11 (by decide), g 12 (by decide), eU_ne (by decide)]
  exact h
theorem IW_one {T : Int → Int} {s e k : Int} : (IW T s e k [104, 111, 117, 115, 101] → ¬ IW T s e k [115, 112, 101, 101, 100]) ∧ (IW T s e k [104, 111, 117, 115, 101] → ¬ IW T s e k [109, 97, 114, 107]) ∧ (IW T s e k [115, 112, 101, 101, 100] → ¬ IW T s e k [109, 97, 114, 107]) := by
  refine ⟨fun a b => ?_, fun a b => ?_, fun a b => ?_⟩
  · have h1 : T (s + (0 : Nat)) = 104 := a.2.2 0 (by decide)
    have h2 : T (s + (0 : Nat)) = 115 := b.2.2 0 (by decide)
    omega
  · have h1 : T (s + (0 : Nat)) = 104 := a.2.2 0 (by decide)
    have h2 : T (s + (0 : Nat)) = 109 := b.2.2 0 (by decide)
    omega
  · have h1 : T (s + (0 : Nat)) = 115 := a.2.2 0 (by decide)
    have h2 : T (s + (0 : Nat)) = 109 := b.2.2 0 (by decide)
    omega
theorem j_line {T : Int → Int} {n p : Int} (w : eW) (hT : TpC T n w) (hk : TOK T n p (w 8 5) (w 8 3) (w 8 4)) (hD : DRF w) (h1 : 1 ≤ w 9 1) :
    ∃ ok w1, Cal mX3_readLine [eR 8] w (some (0, ok)) w1 ∧ Fr [8, 9, 11, 12] w w1 ∧ (0 ≤ ok ∧ ok ≤ 1) ∧
      ((ok = 0 ∧ ∃ q pl, FC q pl w1 ∧ ∀ u, MR T n w u → ∃ u1, Cal mX8_readLine [eR 33] u none u1 ∧ FM q pl u1 ∧ FrP u u1) ∨
       (ok = 1 ∧ RD T n w1 ∧ w 8 5 < w1 8 3 ∧ (w1 9 0 = w 9 0 ∧ w1 9 1 = w 9 1) ∧ ∀ u, MR T n w u → ∃ u1, Cal mX8_readLine [eR 33] u none u1 ∧ MR T n w1 u1 ∧ FrP u u1)) := by
  have n4 := hT.1.2
  have hb := hk.b n4
  obtain ⟨⟨d1, d2, d3, d4, d5, d6⟩, d7, d8, d9, d10, d11⟩ := id hD
  obtain ⟨x1, x2, x3⟩ := IW_one (T := T) (s := w 8 5) (e := w 8 3) (k := w 8 4)
  have g110 := y_isWord110 hT hk rfl rfl rfl
  have g111 := y_isWord111 hT hk rfl rfl rfl
  have g112 := y_isWord112 hT hk rfl rfl rfl
  have v0 : ∀ P : Prop, ¬ P → bI P = 0 := fun P h => bI_0 h
  have ff : ∀ q : Int, Fr [8, 9, 11, 12] w (eU (eU w 8 7 q) 8 8 (w 8 5)) := fun q => (Fr.rf.put (by decide)).put (by decide)
  have wd : ∀ u, MR T n w u → 0 ≤ u 33 17 ∧ u 33 17 ≤ 14 ∧ 0 ≤ u 33 18 ∧ u 33 18 ≤ 10 := by
    intro u hu
    obtain ⟨r1, r2, r3, -⟩ := hu.2.2.2
    have := r1.resolve_left (by omega)
    omega
  by_cases cH : IW T (w 8 5) (w 8 3) (w 8 4) [104, 111, 117, 115, 101]
  · have cS := x1 cH
    have cM := x2 cH
    rw [bI_1 cH] at g110; rw [bI_0 cS] at g111; rw [bI_0 cM] at g112
    refine ⟨0, _, Cal.of (by decide +kernel) (Nat.le_of_ble_eq_true rfl) ?_, ff 3, by decide, Or.inl ⟨rfl, 3, w 8 5, FC.at w 3, fun u hu => ?_⟩⟩
    · apply tX3_readLine_0 w (w1 := w) (w2 := w) (o1 := 0) (o2 := 0) g110 (by decide) g111 (by decide) g112 (by decide) ⟨d7.1, d7.2.1⟩ (by omega) (by decide) (by decide) (fun z => absurd rfl z) (fun z => absurd rfl z) <;> (intros; first | with_reducible exact ⟨rfl, rfl⟩ | contradiction | (exfalso; omega))
    · have e114 := y_isWord114 n4 hk hu.2.1 hu.2.2.1
      have e113 := y_isWord113 n4 hk hu.2.1 hu.2.2.1
      rw [bI_0 cS] at e114; rw [bI_1 cH] at e113
      have hf := FM.at hu hk 3 (by decide)
      have e12 : eU (eU u 33 7 3) 33 8 (u 33 10) 33 12 = u 33 12 := by rw [eU_get, if_neg (by decide), eU_get, if_neg (by decide)]
      refine ⟨_, Cal.of (by decide +kernel) (Nat.le_of_ble_eq_true rfl) ?_, hf, FrP.at _ _⟩
      exact tX8_lineH_0 u hu.2.1 e114 e113 (wd u hu) (fun a b ha hb => by have := hf.whole a b ha hb; rw [e12] at this; exact this) hf.comma ⟨rfl, rfl⟩
  · by_cases cS : IW T (w 8 5) (w 8 3) (w 8 4) [115, 112, 101, 101, 100]
    · have cM := x3 cS
      rw [bI_0 cH] at g110; rw [bI_1 cS] at g111; rw [bI_0 cM] at g112
      by_cases c6 : w 8 6 = 0
      · obtain ⟨ok, w1, a1, a2, a3, a4⟩ := j_speeds w hT hk hD c6
        have hok : 0 ≤ ok ∧ ok ≤ 1 := by rcases a4 with ⟨z, -⟩ | ⟨z, -⟩ <;> omega
        have hlt : w 8 5 < w 8 3 := hb.2.2.2.2.2 (by rw [cS.1]; decide)
        refine ⟨ok, w1, Cal.of (by decide +kernel) (Nat.le_of_ble_eq_true rfl) ?_, a2.mono (by decide), hok, ?_⟩
        · apply tX3_readLine_0 w (w1 := w1) (w2 := w) (o1 := ok) (o2 := 0) g110 (by decide) g111 (by decide) g112 (by decide) ⟨d7.1, d7.2.1⟩ (by omega) hok (by decide) (fun _ _ => a1) (fun z => absurd rfl z) <;> (intros; first | with_reducible exact ⟨rfl, rfl⟩ | contradiction | (exfalso; omega))
        · rcases a4 with ⟨z, q, pl, y1, y2⟩ | ⟨z, y1, y2⟩
          · refine Or.inl ⟨z, q, pl, y1, fun u hu => ?_⟩
            have e114 := y_isWord114 n4 hk hu.2.1 hu.2.2.1
            rw [bI_1 cS] at e114
            exact y2 u hu e114
          · refine Or.inr ⟨z, y1, by omega, ⟨by rw [a2 9 (by decide)], by rw [a2 9 (by decide)]⟩, fun u hu => ?_⟩
            have e114 := y_isWord114 n4 hk hu.2.1 hu.2.2.1
            rw [bI_1 cS] at e114
            exact y2 u hu e114
      · refine ⟨0, _, Cal.of (by decide +kernel) (Nat.le_of_ble_eq_true rfl) ?_, ff 3, by decide, Or.inl ⟨rfl, 3, w 8 5, FC.at w 3, fun u hu => ?_⟩⟩
        · apply tX3_readLine_0 w (w1 := w) (w2 := w) (o1 := 0) (o2 := 0) g110 (by decide) g111 (by decide) g112 (by decide) ⟨d7.1, d7.2.1⟩ (by omega) (by decide) (by decide) (fun _ z => absurd z c6) (fun z => absurd rfl z) <;> (intros; first | with_reducible exact ⟨rfl, rfl⟩ | contradiction | (exfalso; omega))
        · have e114 := y_isWord114 n4 hk hu.2.1 hu.2.2.1
          rw [bI_1 cS] at e114
          have hf := (FM.at hu hk 3 (by decide)).put20
          have e20 : u 33 20 = w 8 6 := hu.2.2.2.2.2.2.1
          obtain ⟨u1, g1, g2, g3⟩ := m_speedsF 1 (by decide) (by decide) _ (hf.put36 (k := 0) (v := eU (eU (eU u 33 7 3) 33 8 (u 33 10)) 33 20 1 33 12))
          refine ⟨u1, Cal.of (by decide +kernel) (Nat.le_of_ble_eq_true rfl) (tX8_lineSS_0 u hu.2.1 (by omega) e114 (tX8_speed0_32 _ (hf.whole 1 9 (by decide) (by decide)) g1)), g2, (((FrP.at _ _).put (Or.inr (Or.inr (Or.inr ⟨rfl, by decide, by decide⟩)))).put (Or.inr (Or.inl rfl))).tr g3⟩
    · by_cases cM : IW T (w 8 5) (w 8 3) (w 8 4) [109, 97, 114, 107]
      · rw [bI_0 cH] at g110; rw [bI_0 cS] at g111; rw [bI_1 cM] at g112
        by_cases c8 : w 9 2 < 8
        · obtain ⟨ok, w1, a1, a2, a3, a5, a4⟩ := j_mark w hT hk hD c8 h1
          have hok : 0 ≤ ok ∧ ok ≤ 1 := by rcases a4 with ⟨z, -⟩ | ⟨z, -⟩ <;> omega
          have hlt : w 8 5 < w 8 3 := hb.2.2.2.2.2 (by rw [cM.1]; decide)
          have ew : ∀ u, MR T n w u → Cal mX8_isWord [eR 33, eR 114] u (some (0, 0)) u ∧ Cal mX8_isWord [eR 33, eR 113] u (some (0, 0)) u ∧ Cal mX8_isWord [eR 33, eR 115] u (some (0, 1)) u := by
            intro u hu
            have e114 := y_isWord114 n4 hk hu.2.1 hu.2.2.1
            have e113 := y_isWord113 n4 hk hu.2.1 hu.2.2.1
            have e115 := y_isWord115 n4 hk hu.2.1 hu.2.2.1
            rw [bI_0 cS] at e114; rw [bI_0 cH] at e113; rw [bI_1 cM] at e115
            exact ⟨e114, e113, e115⟩
          refine ⟨ok, w1, Cal.of (by decide +kernel) (Nat.le_of_ble_eq_true rfl) ?_, a2.mono (by decide), hok, ?_⟩
          · apply tX3_readLine_0 w (w1 := w) (w2 := w1) (o1 := 0) (o2 := ok) g110 (by decide) g111 (by decide) g112 (by decide) ⟨d7.1, d7.2.1⟩ (by omega) (by decide) hok (fun z => absurd rfl z) (fun _ _ => a1) <;> (intros; first | with_reducible exact ⟨rfl, rfl⟩ | contradiction | (exfalso; omega))
          · rcases a4 with ⟨z, q, pl, y1, y2⟩ | ⟨z, y1, y2⟩
            · refine Or.inl ⟨z, q, pl, y1, fun u hu => ?_⟩
              obtain ⟨t1, t2, t3⟩ := ew u hu
              exact y2 u hu t1 t2 t3
            · refine Or.inr ⟨z, y1, by omega, a5.resolve_left (by omega), fun u hu => ?_⟩
              obtain ⟨t1, t2, t3⟩ := ew u hu
              exact y2 u hu t1 t2 t3
        · refine ⟨0, _, Cal.of (by decide +kernel) (Nat.le_of_ble_eq_true rfl) ?_, ff 4, by decide, Or.inl ⟨rfl, 4, w 8 5, FC.at w 4, fun u hu => ?_⟩⟩
          · apply tX3_readLine_0 w (w1 := w) (w2 := w) (o1 := 0) (o2 := 0) g110 (by decide) g111 (by decide) g112 (by decide) ⟨d7.1, d7.2.1⟩ (by omega) (by decide) (by decide) (fun z => absurd rfl z) (fun _ z => absurd z c8) <;> (intros; first | with_reducible exact ⟨rfl, rfl⟩ | contradiction | (exfalso; omega))
          · have e114 := y_isWord114 n4 hk hu.2.1 hu.2.2.1
            have e113 := y_isWord113 n4 hk hu.2.1 hu.2.2.1
            have e115 := y_isWord115 n4 hk hu.2.1 hu.2.2.1
            rw [bI_0 cS] at e114; rw [bI_0 cH] at e113; rw [bI_1 cM] at e115
            have hf := FM.at hu hk 4 (by decide)
            have e12 : eU (eU u 33 7 4) 33 8 (u 33 10) 33 12 = u 33 12 := by rw [eU_get, if_neg (by decide), eU_get, if_neg (by decide)]
            have e19 : u 33 19 = w 9 2 := hu.2.2.2.2.2.1
            refine ⟨_, Cal.of (by decide +kernel) (Nat.le_of_ble_eq_true rfl) ?_, hf, FrP.at _ _⟩
            exact tX8_lineT_0 u hu.2.1 (by omega) e114 e113 e115 (wd u hu) (fun a b ha hb => by have := hf.whole a b ha hb; rw [e12] at this; exact this) hf.comma ⟨rfl, rfl⟩
      · rw [bI_0 cH] at g110; rw [bI_0 cS] at g111; rw [bI_0 cM] at g112
        refine ⟨0, _, Cal.of (by decide +kernel) (Nat.le_of_ble_eq_true rfl) ?_, ff 1, by decide, Or.inl ⟨rfl, 1, w 8 5, FC.at w 1, fun u hu => ?_⟩⟩
        · apply tX3_readLine_0 w (w1 := w) (w2 := w) (o1 := 0) (o2 := 0) g110 (by decide) g111 (by decide) g112 (by decide) ⟨d7.1, d7.2.1⟩ (by omega) (by decide) (by decide) (fun z => absurd rfl z) (fun z => absurd rfl z) <;> (intros; first | with_reducible exact ⟨rfl, rfl⟩ | contradiction | (exfalso; omega))
        · have e114 := y_isWord114 n4 hk hu.2.1 hu.2.2.1
          have e113 := y_isWord113 n4 hk hu.2.1 hu.2.2.1
          have e115 := y_isWord115 n4 hk hu.2.1 hu.2.2.1
          rw [bI_0 cS] at e114; rw [bI_0 cH] at e113; rw [bI_0 cM] at e115
          have hf := FM.at hu hk 1 (by decide)
          have e12 : eU (eU u 33 7 1) 33 8 (u 33 10) 33 12 = u 33 12 := by rw [eU_get, if_neg (by decide), eU_get, if_neg (by decide)]
          refine ⟨_, Cal.of (by decide +kernel) (Nat.le_of_ble_eq_true rfl) ?_, hf, FrP.at _ _⟩
          exact tX8_lineX_0 u hu.2.1 e114 e113 e115 (wd u hu) (fun a b ha hb => by have := hf.whole a b ha hb; rw [e12] at this; exact this) hf.comma ⟨rfl, rfl⟩

