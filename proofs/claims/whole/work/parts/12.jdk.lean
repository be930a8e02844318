theorem go_iushr {M : eM} {pc : Nat} {ls : eL} {st : List eV} {w w' : eW} {r : Option eV} {a b : Int} (hd : decode M.2.1 pc = .ok (.iushr, 1)) (ha : 0 ≤ a ∧ a < 2147483648) (hc : 0 ≤ b ∧ b < 32) (k : Go M (pc + 1) ls ((0, a / 2 ^ b.toNat) :: st) w r w') : Go M pc ls ((0, b) :: (0, a) :: st) w r w' := by
  intro E p l e s m args below meth c H locs la X hP hS hl
  obtain ⟨hx, hb, hml, hr, hlk, hown, hts, hK, hO, hA, hz⟩ := id X
  refine lv_iushr hx hb hd ?_ (k E p l e s m args below meth c H locs la X hP hS hl)
  have e1 : (Int32.ofInt b).toUInt32 &&& Int32.toUInt32 31 = UInt32.ofNat b.toNat := by
    obtain ⟨n, rfl⟩ := Int.eq_ofNat_of_zero_le hc.1
    have key : ∀ j : Fin 32, (Int32.ofInt (j.val : Int)).toUInt32 &&& Int32.toUInt32 31 = UInt32.ofNat j.val := by decide
    exact key ⟨n, by omega⟩
  show ((Int32.ofInt a).toUInt32 >>> ((Int32.ofInt b).toUInt32 &&& Int32.toUInt32 31)).toInt32 = _
  rw [e1]
  apply Int32.toBitVec_inj.mp
  apply BitVec.eq_of_toNat_eq
  have hq := e_div2 (n := b.toNat) ha
  rw [e_toNat hq.1 (by omega)]
  have hn : b.toNat < 32 := by omega
  show (((Int32.ofInt a).toUInt32 >>> UInt32.ofNat b.toNat).toNat) = _
  rw [UInt32.toNat_shiftRight]
  have e2 : (Int32.ofInt a).toUInt32.toNat = a.toNat := e_toNat ha.1 (by omega)
  have e3 : (UInt32.ofNat b.toNat).toNat % 32 = b.toNat := by
    have : (UInt32.ofNat b.toNat).toNat = b.toNat := UInt32.toNat_ofNat_of_lt' (by show b.toNat < 4294967296; omega)
    rw [this]
    exact Nat.mod_eq_of_lt hn
  rw [e2, e3, Nat.shiftRight_eq_div_pow]
  obtain ⟨m, rfl⟩ := Int.eq_ofNat_of_zero_le ha.1
  have : ((m : Int) / 2 ^ b.toNat) = ((m / 2 ^ b.toNat : Nat) : Int) := by rw [Int.natCast_ediv, Int.natCast_pow]; rfl
  show m / 2 ^ b.toNat = ((m : Int) / 2 ^ b.toNat).toNat
  rw [this]
  rfl
/-- how many bits are set, of fourteen -/
def popI (n : Int) : Int := sumI (fun x => n / 2 ^ x.toNat % 2) 0 14
def bcN (n : Nat) : Nat :=
  let a := n - ((n / 2) &&& 1431655765)
  let b := (a &&& 858993459) + ((a / 4) &&& 858993459)
  let c := (b + b / 16) &&& 252645135
  let d := c + c / 256
  let e := d + d / 65536
  e &&& 63
def popN (n : Nat) : Nat := n % 2 + n / 2 % 2 + n / 4 % 2 + n / 8 % 2 + n / 16 % 2 + n / 32 % 2 + n / 64 % 2 + n / 128 % 2 + n / 256 % 2 + n / 512 % 2 + n / 1024 % 2 + n / 2048 % 2 + n / 4096 % 2 + n / 8192 % 2
theorem bc_pop : ∀ a : Fin 128, ∀ b : Fin 128, bcN (128 * a.val + b.val) = popN (128 * a.val + b.val) := by decide +kernel
theorem popI_nat (n : Nat) : popI (n : Int) = (popN n : Int) := by
  unfold popI popN sumI
  show sumN _ 0 14 = _
  simp only [sumN]
  simp

theorem go_mmax {M : eM} {pc : Nat} {ls : eL} {rest : List eV} {w w' : eW} {r : Option eV} {a b : Int} {idx : Nat} (hd : decode M.2.1 pc = .ok (.invokestatic idx, 3)) (hw : Cond.methodLink M.1.cls idx Lib.Math.max.name ∈ eTb) (hfr : 1 ≤ M.2.2.2.2.1 ∧ (rest.map fun v => if v.1 = 1 then 2 else 1).sum + 13 ≤ M.2.2.2.2.2) (ha : eI a) (hb2 : eI b) (k : Go M (pc + 3) ls ((0, max a b) :: rest) w r w') : Go M pc ls ((0, b) :: (0, a) :: rest) w r w' := by
  intro E p l e s m args below meth c H locs la X hP hS hl
  obtain ⟨hx, hb, hml, hr, hlk, hown, hts, hK, hO, hA, hz⟩ := id X
  refine va_mmax hx hb (hml.trans hl.1.symm) hown (hts _ hw) (hts _ (eMem 3 189 rfl rfl)) (hts (.initialized "java/lang/Math") (eMem 1 17 rfl rfl)) (hts _ (eMem 3 190 rfl rfl)) hfr.1 (by rw [eCat]; exact hfr.2) (Nat.le_refl _) (Nat.le_refl _) hd ?_
  have h := k E p l e s m args below meth c H locs la X hP hS hl
  have e1 : (if Int32.ofInt a < Int32.ofInt b then Int32.ofInt b else Int32.ofInt a) = Int32.ofInt (max a b) := by
    by_cases hc : a < b
    · rw [if_pos (e_lt ha hb2 |>.mpr hc)]
      congr 1
      omega
    · rw [if_neg (mt (e_lt ha hb2).mp hc)]
      congr 1
      omega
  show W _ _ _ _ _ _ _ _ _ _ _ _ _ _ _ (F0 m (pc + 3) la (.int (if Int32.ofInt a < Int32.ofInt b then Int32.ofInt b else Int32.ofInt a) :: _))
  rw [e1]
  exact h
theorem go_mmin {M : eM} {pc : Nat} {ls : eL} {rest : List eV} {w w' : eW} {r : Option eV} {a b : Int} {idx : Nat} (hd : decode M.2.1 pc = .ok (.invokestatic idx, 3)) (hw : Cond.methodLink M.1.cls idx Lib.Math.min.name ∈ eTb) (hfr : 1 ≤ M.2.2.2.2.1 ∧ (rest.map fun v => if v.1 = 1 then 2 else 1).sum + 13 ≤ M.2.2.2.2.2) (ha : eI a) (hb2 : eI b) (k : Go M (pc + 3) ls ((0, min a b) :: rest) w r w') : Go M pc ls ((0, b) :: (0, a) :: rest) w r w' := by
  intro E p l e s m args below meth c H locs la X hP hS hl
  obtain ⟨hx, hb, hml, hr, hlk, hown, hts, hK, hO, hA, hz⟩ := id X
  refine va_mmin hx hb (hml.trans hl.1.symm) hown (hts _ hw) (hts _ (eMem 3 170 rfl rfl)) (hts (.initialized "java/lang/Math") (eMem 1 17 rfl rfl)) (hts _ (eMem 3 171 rfl rfl)) hfr.1 (by rw [eCat]; exact hfr.2) (Nat.le_refl _) (Nat.le_refl _) hd ?_
  have h := k E p l e s m args below meth c H locs la X hP hS hl
  have e1 : (if Int32.ofInt b < Int32.ofInt a then Int32.ofInt b else Int32.ofInt a) = Int32.ofInt (min a b) := by
    by_cases hc : b < a
    · rw [if_pos (e_lt hb2 ha |>.mpr hc)]
      congr 1
      omega
    · rw [if_neg (mt (e_lt hb2 ha).mp hc)]
      congr 1
      omega
  show W _ _ _ _ _ _ _ _ _ _ _ _ _ _ _ (F0 m (pc + 3) la (.int (if Int32.ofInt b < Int32.ofInt a then Int32.ofInt b else Int32.ofInt a) :: _))
  rw [e1]
  exact h
theorem go_mminL {M : eM} {pc : Nat} {ls : eL} {rest : List eV} {w w' : eW} {r : Option eV} {a b : Int} {idx : Nat} (hd : decode M.2.1 pc = .ok (.invokestatic idx, 3)) (hw : Cond.methodLink M.1.cls idx Lib.MathLoose.min_long.x ∈ eTb) (hfr : 1 ≤ M.2.2.2.2.1 ∧ (rest.map fun v => if v.1 = 1 then 2 else 1).sum + 15 ≤ M.2.2.2.2.2) (ha : eJ a) (hb2 : eJ b) (k : Go M (pc + 3) ls ((1, min a b) :: rest) w r w') : Go M pc ls ((1, b) :: (1, a) :: rest) w r w' := by
  intro E p l e s m args below meth c H locs la X hP hS hl
  obtain ⟨hx, hb, hml, hr, hlk, hown, hts, hK, hO, hA, hz⟩ := id X
  refine va_mmin_long hx hb (hml.trans hl.1.symm) hown (hts _ hw) (hts _ (eMem 3 83 rfl rfl)) (hts (.initialized "java/lang/Math") (eMem 1 17 rfl rfl)) (hts _ (eMem 3 84 rfl rfl)) hfr.1 (by rw [eCat]; exact hfr.2) (Nat.le_refl _) (Nat.le_refl _) hd ?_
  have h := k E p l e s m args below meth c H locs la X hP hS hl
  have e1 : (if Int64.ofInt b < Int64.ofInt a then Int64.ofInt b else Int64.ofInt a) = Int64.ofInt (min a b) := by
    by_cases hc : b < a
    · rw [if_pos (eJ_lt hb2 ha |>.mpr hc)]
      congr 1
      omega
    · rw [if_neg (mt (eJ_lt hb2 ha).mp hc)]
      congr 1
      omega
  show W _ _ _ _ _ _ _ _ _ _ _ _ _ _ _ (F0 m (pc + 3) la (.long (if Int64.ofInt b < Int64.ofInt a then Int64.ofInt b else Int64.ofInt a) :: _))
  rw [e1]
  exact h
/-- a row filled -/
def eFill (w : eW) (o : Nat) (n v : Int) : eW := fun k => if k = o then (fun j => if 0 ≤ j ∧ j < n then v else w o j) else w k
theorem eFill_ne {w : eW} {o k : Nat} {n v : Int} (h : k ≠ o) : eFill w o n v k = w k := by simp [eFill, h]
theorem eFill_at (w : eW) (o : Nat) (n v j : Int) : eFill w o n v o j = if 0 ≤ j ∧ j < n then v else w o j := by simp [eFill]
set_option maxRecDepth 20000 in
theorem tJ7_fill_53178_0 {r : Option eV} {w9 : eW} (w : eW) (v : Int) {o n : Nat} (ho_lt : o < eN) (ho_kd : eKd o = (10, n)) (k1 : Go mJ7_fill_53178 5 [(0, eR o), (1, (0, v)), (2, (0, 0)), (3, (0, n))] [] w r w9) : Go mJ7_fill_53178 0 [(0, eR o), (1, (0, v))] [] w r w9 := by
  exact go_iconst (eD DJ7_fill_53178 0 rfl) (go_istore_n (eD DJ7_fill_53178 1 rfl) rfl (by decide) (go_aload_n (eD DJ7_fill_53178 2 rfl) rfl rfl (go_alen (n := n) (eD DJ7_fill_53178 3 rfl) ho_lt ho_kd (by decide) (go_istore_n (eD DJ7_fill_53178 4 rfl) rfl (by decide) (Go.pick [2, 3, 1, 0] rfl (k1))))))
set_option maxRecDepth 20000 in
theorem tJ7_fill_53178_5 {r : Option eV} {w9 : eW} (w : eW) (v i m : Int) {o n : Nat} (ho_lt : o < eN) (ho_kd : eKd o = (10, n)) (hm : m = n ∧ n < 2147483648) (hi : 0 ≤ i ∧ i ≤ n) (k1 : i < m → Go mJ7_fill_53178 5 [(0, eR o), (1, (0, v)), (2, (0, i + 1)), (3, (0, m))] [] (eU w o i v) r w9) (k2 : ¬ (i < m) → r = none ∧ w9 = w) : Go mJ7_fill_53178 5 [(0, eR o), (1, (0, v)), (2, (0, i)), (3, (0, m))] [] w r w9 := by
  obtain ⟨hm1, hm2⟩ := hm
  refine go_iload_n (eD DJ7_fill_53178 5 rfl) rfl rfl (go_iload_n (eD DJ7_fill_53178 6 rfl) rfl rfl (?_))
  by_cases h1 : i < m
  · refine go_icmp_geF (tgt := 20) (eD DJ7_fill_53178 7 rfl) rfl (by omega) (by omega) (Int.not_le.mpr h1) ?_
    exact go_aload_n (eD DJ7_fill_53178 8 rfl) rfl rfl (go_iload_n (eD DJ7_fill_53178 9 rfl) rfl rfl (go_iload_n (eD DJ7_fill_53178 10 rfl) rfl rfl (go_iast (n := n) (eD DJ7_fill_53178 11 rfl) ho_lt ho_kd (by omega) (go_iinc (eD DJ7_fill_53178 12 rfl) rfl (by decide) (go_goto (tgt := 5) (eD DJ7_fill_53178 13 rfl) rfl (Go.pick [1, 2, 0, 3] rfl (k1 h1)))))))
  · refine go_icmp_geT (tgt := 20) (eD DJ7_fill_53178 7 rfl) rfl (by omega) (by omega) (Int.not_lt.mp h1) ?_
    obtain ⟨rfl, rfl⟩ := k2 h1
    exact go_vret (eD DJ7_fill_53178 14 rfl) rfl
theorem y_J7_fill {o n : Nat} (ho : o < eN) (hk : eKd o = (10, n)) (w : eW) (v : Int) : Cal mJ7_fill_53178 [eR o, (0, v)] w none (eFill w o n v) := by
  have hn := eNsmall hk
  refine Cal.of (by decide +kernel) (Nat.le_of_ble_eq_true rfl) ?_
  refine tJ7_fill_53178_0 w v ho hk ?_
  have e0 : eFill w o 0 v = w := by
    funext k
    by_cases h : k = o
    · subst h
      funext j
      rw [eFill_at, if_neg (by omega)]
    · exact eFill_ne h
  have key := loop_up (P := fun i => Go mJ7_fill_53178 5 [(0, eR o), (1, (0, v)), (2, (0, i)), (3, (0, (n : Int)))] [] (eFill w o i v) none (eFill w o n v)) 0 n ?_ ?_ 0 (by omega) (by omega)
  · rw [e0] at key
    exact key
  · refine tJ7_fill_53178_5 _ v n n ho hk ⟨rfl, hn⟩ (by omega) (fun h => absurd h (by omega)) (fun _ => ⟨rfl, rfl⟩)
  · intro i h1 h2 ih
    refine tJ7_fill_53178_5 _ v i n ho hk ⟨rfl, hn⟩ (by omega) (fun _ => ?_) (fun h => absurd h2 h)
    refine Go.as ?_ ih
    funext k
    by_cases h : k = o
    · subst h
      funext j
      rw [eU_at, eFill_at]
      simp only [eFill_at]
      by_cases hj : j = i
      · rw [if_pos hj, if_pos (by omega)]
      · rw [if_neg hj]
        by_cases hj2 : 0 ≤ j ∧ j < i
        · rw [if_pos hj2, if_pos (by omega)]
        · rw [if_neg hj2, if_neg (by omega)]
    · rw [eU_ne h, eFill_ne h, eFill_ne h]
