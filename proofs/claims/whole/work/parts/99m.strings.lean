/-! texts: the JDK's length and charAt on the six of them -/
section RS
variable {M : eM} {pc : Nat} {ls : eL} {st : List eV} {w w' : eW} {r : Option eV}
/-- the signs of a text -/
def eSg (o : Nat) : List Int := if o = 110 ∨ o = 113 then [104, 111, 117, 115, 101] else if o = 111 ∨ o = 114 then [115, 112, 101, 101, 100] else [109, 97, 114, 107]
theorem eSg_is : ∀ i : Nat, i < 6 → (eSb.getD i []).length = (eSg (110 + i)).length ∧ (eSg (110 + i)).length < 10 ∧ ∀ j : Nat, j < (eSg (110 + i)).length → (eSb.getD i []).getD j 0 = Int32.ofInt ((eSg (110 + i)).getD j 0) ∧ 0 ≤ (eSg (110 + i)).getD j 0 ∧ (eSg (110 + i)).getD j 0 < 128 := by decide +kernel
theorem go_getCS {idx : Nat} (hd : decode M.2.1 pc = .ok (.getstatic idx, 3)) (hw : Cond.fieldLink M.1.cls idx "java/lang/String" "COMPACT_STRINGS" "Z" ∈ eTb) (kk : Go M (pc + 3) ls ((0, 1) :: st) w r w') : Go M pc ls st w r w' := by
  intro E p l e s m args below meth c H locs la X hP hS hl
  obtain ⟨hx, hb, hml, hr, hlk, hown, hts, hK, hO, hA, hz⟩ := id X
  exact va_gets hx hb hO.2.2.1 hS hown (hts _ hw) (fun _ h => h) hd (kk E p l e s m args below meth c H locs la X hP hS hl)
theorem go_getCoder {idx i : Nat} (hd : decode M.2.1 pc = .ok (.getfield idx, 3)) (hi : i < 6) (hw : Cond.fieldLink M.1.cls idx "java/lang/String" "coder" "B" ∈ eTb) (kk : Go M (pc + 3) ls ((0, 0) :: st) w r w') : Go M pc ls (eR (110 + i) :: st) w r w' := by
  intro E p l e s m args below meth c H locs la X hP hS hl
  obtain ⟨hx, hb, hml, hr, hlk, hown, hts, hK, hO, hA, hz⟩ := id X
  exact vk_getf hx hb (hO.2.2.2.2.2.1 i hi).2.1 hS hown (hts _ hw) (fun _ h => h) hd (kk E p l e s m args below meth c H locs la X hP hS hl)
theorem go_getValue {idx i : Nat} (hd : decode M.2.1 pc = .ok (.getfield idx, 3)) (hi : i < 6) (hw : Cond.fieldLink M.1.cls idx "java/lang/String" "value" "[B" ∈ eTb) (kk : Go M (pc + 3) ls (eR (120 + i) :: st) w r w') : Go M pc ls (eR (110 + i) :: st) w r w' := by
  intro E p l e s m args below meth c H locs la X hP hS hl
  obtain ⟨hx, hb, hml, hr, hlk, hown, hts, hK, hO, hA, hz⟩ := id X
  exact vk_getf hx hb (hO.2.2.2.2.2.1 i hi).2.2.1 hS hown (hts _ hw) (fun _ h => h) hd (kk E p l e s m args below meth c H locs la X hP hS hl)
theorem go_slen {i : Nat} (hd : decode M.2.1 pc = .ok (.arraylength, 1)) (hi : i < 6) (kk : Go M (pc + 1) ls ((0, ((eSg (110 + i)).length : Int)) :: st) w r w') : Go M pc ls (eR (120 + i) :: st) w r w' := by
  intro E p l e s m args below meth c H locs la X hP hS hl
  obtain ⟨hx, hb, hml, hr, hlk, hown, hts, hK, hO, hA, hz⟩ := id X
  refine va_tlen hx hb (hO.2.2.2.2.2.1 i hi).2.2.2 hS (v := Int32.ofInt ((eSg (110 + i)).length : Int)) ?_ hd (kk E p l e s m args below meth c H locs la X hP hS hl)
  rw [(eSg_is i hi).1, Int32.ofInt_eq_ofNat]
theorem go_sald {i : Nat} {j : Int} (hd : decode M.2.1 pc = .ok (.baload, 1)) (hi : i < 6) (hj : 0 ≤ j ∧ j < (eSg (110 + i)).length) (kk : Go M (pc + 1) ls ((0, (eSg (110 + i)).getD j.toNat 0) :: st) w r w') : Go M pc ls ((0, j) :: eR (120 + i) :: st) w r w' := by
  intro E p l e s m args below meth c H locs la X hP hS hl
  obtain ⟨hx, hb, hml, hr, hlk, hown, hts, hK, hO, hA, hz⟩ := id X
  obtain ⟨q1, q2, q3⟩ := eSg_is i hi
  have e1 : (Int32.ofInt j).toNatClampNeg = j.toNat := e_clamp hj.1 ⟨by omega, by omega⟩
  refine va_tb hx hb (hO.2.2.2.2.2.1 i hi).2.2.2 hS (i := Int32.ofInt j) (e_in (by rw [q1]; exact hj) (by rw [q1]; omega)) (v := .int (Int32.ofInt ((eSg (110 + i)).getD j.toNat 0))) ?_ hd (kk E p l e s m args below meth c H locs la X hP hS hl)
  rw [e1, (q3 j.toNat (by omega)).1]
theorem go_i2c {a : Int} (hd : decode M.2.1 pc = .ok (.i2c, 1)) (ha : 0 ≤ a ∧ a < 65536) (kk : Go M (pc + 1) ls ((0, a) :: st) w r w') : Go M pc ls ((0, a) :: st) w r w' := by
  intro E p l e s m args below meth c H locs la X hP hS hl
  obtain ⟨hx, hb, hml, hr, hlk, hown, hts, hK, hO, hA, hz⟩ := id X
  refine lv_i2c hx hb hd ?_ (kk E p l e s m args below meth c H locs la X hP hS hl)
  apply Int32.toBitVec_inj.mp
  apply BitVec.eq_of_toNat_eq
  have e := e_toNat (a := a) ha.1 (by omega)
  show ((Int32.ofInt a).toUInt32 % 65536).toBitVec.toNat = _
  rw [UInt32.toBitVec_mod, BitVec.toNat_umod]
  show (Int32.ofInt a).toBitVec.toNat % 65536 = _
  rw [e]
  omega
theorem go_cret {n : Int} (hd : decode M.2.1 pc = .ok (.ireturn, 1)) (hr : M.2.2.2.1 = some .char) (hn : 0 ≤ n ∧ n < 128) : Go M pc ls [(0, n)] w (some (0, n)) w := by
  intro E p l e s m args below meth c H locs la X hP hS hl
  obtain ⟨hx, hb, hml, hr', hlk, hown, hts, hK, hO, hA, hz⟩ := id X
  refine W.zret (v := Int32.ofInt n) (ty := .char) hx hb (hr'.trans hr) ?_ (fun t ht hW => ⟨rfl, by rw [ht]; exact hP, hS.F ht⟩) hS.2.2 hd hlk
  show Value.int _ = Value.int _
  congr 1
  apply Int32.toBitVec_inj.mp
  apply BitVec.eq_of_toNat_eq
  have e := e_toNat (a := n) hn.1 (by omega)
  show ((Int32.ofInt n).toUInt32 % 65536).toBitVec.toNat = _
  rw [UInt32.toBitVec_mod, BitVec.toNat_umod]
  show (Int32.ofInt n).toBitVec.toNat % 65536 = _
  rw [e]
  omega
theorem go_bret0 (hd : decode M.2.1 pc = .ok (.ireturn, 1)) (hr : M.2.2.2.1 = some .byte) : Go M pc ls [(0, 0)] w (some (0, 0)) w := by
  intro E p l e s m args below meth c H locs la X hP hS hl
  obtain ⟨hx, hb, hml, hr', hlk, hown, hts, hK, hO, hA, hz⟩ := id X
  exact W.zret (v := Int32.ofInt 0) (ty := .byte) hx hb (hr'.trans hr) rfl (fun t ht hW => ⟨rfl, by rw [ht]; exact hP, hS.F ht⟩) hS.2.2 hd hlk
end RS
theorem y_coder (w : eW) (i : Nat) (hi : i < 6) : Cal mJ0_coder_7d493 [eR (110 + i)] w (some (0, 0)) w := by
  refine Cal.of (by decide +kernel) (Nat.le_of_ble_eq_true rfl) ?_
  show Go _ 0 [(0, eR (110 + i))] [] _ _ _
  exact go_getCS (eD DJ0_coder_7d493 0 rfl) (eMem 2 96 rfl rfl) (go_if_eqF (tgt := 13) (eD DJ0_coder_7d493 1 rfl) rfl (by decide) (by decide) (go_aload_n (eD DJ0_coder_7d493 2 rfl) rfl rfl (go_getCoder (eD DJ0_coder_7d493 3 rfl) hi (eMem 7 93 rfl rfl) (go_goto (tgt := 14) (eD DJ0_coder_7d493 4 rfl) rfl (go_bret0 (eD DJ0_coder_7d493 6 rfl) rfl)))))
theorem y_isLatin1 (w : eW) (i : Nat) (hi : i < 6) : Cal mJ0_isLatin1_aae02 [eR (110 + i)] w (some (0, 1)) w := by
  refine Cal.of (by decide +kernel) (Nat.le_of_ble_eq_true rfl) ?_
  show Go _ 0 [(0, eR (110 + i))] [] _ _ _
  exact go_getCS (eD DJ0_isLatin1_aae02 0 rfl) (eMem 2 96 rfl rfl) (go_if_eqF (tgt := 17) (eD DJ0_isLatin1_aae02 1 rfl) rfl (by decide) (by decide) (go_aload_n (eD DJ0_isLatin1_aae02 2 rfl) rfl rfl (go_getCoder (eD DJ0_isLatin1_aae02 3 rfl) hi (eMem 7 93 rfl rfl) (go_if_neF (tgt := 17) (eD DJ0_isLatin1_aae02 4 rfl) rfl (by decide) (by decide) (go_iconst (eD DJ0_isLatin1_aae02 5 rfl) (go_goto (tgt := 18) (eD DJ0_isLatin1_aae02 6 rfl) rfl (go_zret (eD DJ0_isLatin1_aae02 8 rfl) rfl (by decide))))))))
theorem y_length (w : eW) (i : Nat) (hi : i < 6) : Cal mJ0_length_8abf5 [eR (110 + i)] w (some (0, ((eSg (110 + i)).length : Int))) w := by
  have q := (eSg_is i hi).2.1
  refine Cal.of (by decide +kernel) (Nat.le_of_ble_eq_true rfl) ?_
  show Go _ 0 [(0, eR (110 + i))] [] _ _ _
  refine go_aload_n (eD DJ0_length_8abf5 0 rfl) rfl rfl (go_getValue (eD DJ0_length_8abf5 1 rfl) hi (eMem 7 92 rfl rfl) (go_slen (eD DJ0_length_8abf5 2 rfl) hi (go_aload_n (eD DJ0_length_8abf5 3 rfl) rfl rfl (go_callT [] (eD DJ0_length_8abf5 4 rfl) ⟨eMem 2 92 rfl rfl, sJ0_coder_7d493⟩ ⟨Nat.le_of_ble_eq_true rfl, Nat.le_of_ble_eq_true rfl⟩ (by omega) rfl rfl rfl (Nat.le_of_ble_eq_true rfl) (y_coder w i hi) (go_ishr (eD DJ0_length_8abf5 5 rfl) (by omega) (by decide) ?_)))))
  rw [show ((eSg (110 + i)).length : Int) / 2 ^ (0 : Int).toNat = ((eSg (110 + i)).length : Int) by rw [show (0 : Int).toNat = 0 from rfl, Int.pow_zero, Int.ediv_one]]
  exact go_iret (eD DJ0_length_8abf5 6 rfl) rfl
/-- the check of an index, whatever it would throw with -/
theorem met_chk (E : eE) (l : Launch) (hA : eAd E) (w : eW) {i n : Int} (hi : 0 ≤ i ∧ i < n) (hn : eI n) (v : Value) (hv : v = .null ∨ ∃ t, v = .ref t) : Met l mJ3_checkIndex_8e157.1 (eWd mJ3_checkIndex_8e157) (eRm mJ3_checkIndex_8e157) (va_Pc [.int (Int32.ofInt i), .int (Int32.ofInt n), v] (ePre E w)) (eQ E (some (0, i)) w) 0 0 (eA E) := by
  have k : Go mJ3_checkIndex_8e157 0 [(0, (0, i)), (1, (0, n))] [] w (some (0, i)) w :=
    go_iload_n (eD DJ3_checkIndex_8e157 0 rfl) rfl rfl (go_if_ltF (tgt := 9) (eD DJ3_checkIndex_8e157 1 rfl) rfl (by omega) (by omega) (go_iload_n (eD DJ3_checkIndex_8e157 2 rfl) rfl rfl (go_iload_n (eD DJ3_checkIndex_8e157 3 rfl) rfl rfl (go_icmp_ltT (tgt := 16) (eD DJ3_checkIndex_8e157 4 rfl) rfl (by omega) hn hi.2 (go_iload_n (eD DJ3_checkIndex_8e157 10 rfl) rfl rfl (go_iret (eD DJ3_checkIndex_8e157 11 rfl) rfl))))))
  refine Met.ofW (cc := mJ3_checkIndex_8e157.2.1) (maxL := mJ3_checkIndex_8e157.2.2.1) (ret := mJ3_checkIndex_8e157.2.2.2.1) (ws' := eTb) (by decide +kernel) rfl ?_
  intro p e s m args below meth c s₁ B hml hp
  obtain ⟨rfl, hz, hP, hK, hO⟩ := hp
  have hts := atoms_spec (ws := eWd mJ3_checkIndex_8e157) B.pre
  have hl := lv_entry [.int (Int32.ofInt i), .int (Int32.ofInt n), v] (n := mJ3_checkIndex_8e157.2.2.1) (by rcases hv with rfl | ⟨t, rfl⟩ <;> exact Nat.le_refl 3)
  rw [lg_entry_eq]
  have hl2 := lv_sub hl [0, 1] (l' := [(0, .int (Int32.ofInt i)), (1, .int (Int32.ofInt n))]) rfl
  exact k E p l e s m _ below meth c s.heap [] _ ⟨B.exec, B.bytes, hml, B.returns, B.notSynchronized, findClass_of_methodNamed B.named, fun w h => hts w (List.mem_cons_of_mem _ h), hK, hO, hA, hz⟩ hP va_S.rf hl2
theorem y_checkIndex (w : eW) (i n : Int) (hi : 0 ≤ i ∧ i < n) (hn : eI n) : Cal mJ0_checkIndex_df160 [(0, i), (0, n)] w none w := by
  refine Cal.of (by decide +kernel) (Nat.le_of_ble_eq_true rfl) ?_
  show Go _ 0 [(0, (0, i)), (1, (0, n))] [] _ _ _
  refine go_iload_n (eD DJ0_checkIndex_df160 0 rfl) rfl rfl (go_iload_n (eD DJ0_checkIndex_df160 1 rfl) rfl rfl ?_)
  have k8 : Go mJ0_checkIndex_df160 8 [(0, (0, i)), (1, (0, n))] [(0, i)] w none w := go_pop (eD DJ0_checkIndex_df160 4 rfl) (by simp) (go_vret (eD DJ0_checkIndex_df160 5 rfl) rfl)
  intro E p l e s m args below meth c H locs la X hP hS hl
  obtain ⟨hx, hb, hml, hr, hlk, hown, hts, hK, hO, hA, hz⟩ := id X
  obtain ⟨v2, v4, v5, v6, v7, v8⟩ := sJ3_checkIndex_8e157
  have go : ∀ v : Value, (v = .null ∨ ∃ t, v = .ref t) → W p l e (eRm mJ0_checkIndex_df160) s m args below meth c H locs 0 0 (MQ below (eQ E none w) args s 0 0 (eA E)) (F0 m 5 la [v, .int (Int32.ofInt n), .int (Int32.ofInt i)]) := by
    intro v hv
    refine e_back (a := [.int (Int32.ofInt i), .int (Int32.ofInt n), v].toArray) (va_runS (n := 3) (As := [.int (Int32.ofInt i), .int (Int32.ofInt n), v]) (rest := []) (bytes := mJ3_checkIndex_8e157.2.1) (maxL := mJ3_checkIndex_8e157.2.2.1) (ret := mJ3_checkIndex_8e157.2.2.2.1) ⟨hx, hb, hml, hown, hts⟩ (met_chk E l hA w hi hn v hv) ⟨callB_of 3 hts (eWd_good v5) rfl rfl rfl (hts _ v4) (hts _ (eMem 2 114 rfl rfl)) ⟨v6, v7, v8⟩ ⟨Nat.le_of_ble_eq_true rfl, Nat.le_of_ble_eq_true rfl⟩, hts _ v2⟩ ⟨ePre_blind, fun U hU hW => ⟨rfl, ePre_at X hP hS U hU hW⟩⟩ rfl rfl hl.1 rfl (Nat.le_of_ble_eq_true rfl) (eD DJ0_checkIndex_df160 3 rfl) ⟨Nat.le_refl _, Nat.le_refl _⟩) hS (fun H1 locs1 hP1 hS1 => ?_)
    exact k8 E p l e s m args below meth c H1 locs1 la X hP1 hS1 hl
  rcases hO.2.2.2.1 with q | ⟨t, q⟩
  · exact va_gets hx hb q hS hown (hts _ (eMem 2 112 rfl rfl)) (fun _ h => h) (eD DJ0_checkIndex_df160 2 rfl) (go .null (Or.inl rfl))
  · exact va_gets hx hb q hS hown (hts _ (eMem 2 112 rfl rfl)) (fun _ h => h) (eD DJ0_checkIndex_df160 2 rfl) (go (.ref t) (Or.inr ⟨t, rfl⟩))
theorem y_charAt1 (w : eW) (i : Nat) (j : Int) (hi : i < 6) (hj : 0 ≤ j ∧ j < (eSg (110 + i)).length) : Cal mJ1_charAt_3b067 [eR (120 + i), (0, j)] w (some (0, (eSg (110 + i)).getD j.toNat 0)) w := by
  obtain ⟨q1, q2, q3⟩ := eSg_is i hi
  have q4 := (q3 j.toNat (by omega)).2
  refine Cal.of (by decide +kernel) (Nat.le_of_ble_eq_true rfl) ?_
  show Go _ 0 [(0, eR (120 + i)), (1, (0, j))] [] _ _ _
  refine go_iload_n (eD DJ1_charAt_3b067 0 rfl) rfl rfl (go_aload_n (eD DJ1_charAt_3b067 1 rfl) rfl rfl (go_slen (eD DJ1_charAt_3b067 2 rfl) hi (go_callS [(0, j), (0, ((eSg (110 + i)).length : Int))] (eD DJ1_charAt_3b067 3 rfl) ⟨eMem 2 109 rfl rfl, sJ0_checkIndex_df160⟩ ⟨Nat.le_of_ble_eq_true rfl, Nat.le_of_ble_eq_true rfl⟩ rfl rfl (Nat.le_of_ble_eq_true rfl) (y_checkIndex w j _ hj (by omega)) (go_aload_n (eD DJ1_charAt_3b067 4 rfl) rfl rfl (go_iload_n (eD DJ1_charAt_3b067 5 rfl) rfl rfl (go_sald (eD DJ1_charAt_3b067 6 rfl) hi hj (go_sipush (eD DJ1_charAt_3b067 7 rfl) (by decide) (go_iand (eD DJ1_charAt_3b067 8 rfl) ?_))))))))
  rw [eAnd_255, Int.emod_eq_of_lt q4.1 (by omega)]
  exact go_i2c (eD DJ1_charAt_3b067 9 rfl) (by omega) (go_cret (eD DJ1_charAt_3b067 10 rfl) rfl q4)
theorem y_charAt (w : eW) (i : Nat) (j : Int) (hi : i < 6) (hj : 0 ≤ j ∧ j < (eSg (110 + i)).length) : Cal mJ0_charAt_5068e [eR (110 + i), (0, j)] w (some (0, (eSg (110 + i)).getD j.toNat 0)) w := by
  obtain ⟨q1, q2, q3⟩ := eSg_is i hi
  have q4 := (q3 j.toNat (by omega)).2
  refine Cal.of (by decide +kernel) (Nat.le_of_ble_eq_true rfl) ?_
  show Go _ 0 [(0, eR (110 + i)), (1, (0, j))] [] _ _ _
  exact go_aload_n (eD DJ0_charAt_5068e 0 rfl) rfl rfl (go_callT [] (eD DJ0_charAt_5068e 1 rfl) ⟨eMem 2 102 rfl rfl, sJ0_isLatin1_aae02⟩ ⟨Nat.le_of_ble_eq_true rfl, Nat.le_of_ble_eq_true rfl⟩ (by omega) rfl rfl rfl (Nat.le_of_ble_eq_true rfl) (y_isLatin1 w i hi) (go_if_eqF (tgt := 16) (eD DJ0_charAt_5068e 2 rfl) rfl (by decide) (by decide) (go_aload_n (eD DJ0_charAt_5068e 3 rfl) rfl rfl (go_getValue (eD DJ0_charAt_5068e 4 rfl) hi (eMem 7 92 rfl rfl) (go_iload_n (eD DJ0_charAt_5068e 5 rfl) rfl rfl (go_callS [eR (120 + i), (0, j)] (eD DJ0_charAt_5068e 6 rfl) ⟨eMem 2 106 rfl rfl, sJ1_charAt_3b067⟩ ⟨Nat.le_of_ble_eq_true rfl, Nat.le_of_ble_eq_true rfl⟩ rfl rfl (Nat.le_of_ble_eq_true rfl) (y_charAt1 w i j hi hj) (go_cret (eD DJ0_charAt_5068e 7 rfl) rfl q4)))))))
