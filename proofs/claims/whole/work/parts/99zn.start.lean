/-! THE START: an empty world -/
def w0 : eW := fun k => match k with
  | 0 => fun j => if j = 4 then -1 else 0
  | 8 => fun j => if j = 8 then -1 else 0
  | 31 => fun j => if j = 1 then 1 else 0
  | 32 => fun j => if j = 1 then 1 else 0
  | 33 => fun j => if j = 2 then -1 else 0
  | _ => fun _ => 0
theorem IV_w0 : IV w0 := by
  have b0 : ∀ x, bitv 0 x = 0 := fun x => by unfold bitv; rw [Int.zero_ediv]; rfl
  refine ⟨⟨by decide, fun i _ _ => by show (0 : Int) ≤ 0 ∧ (0 : Int) < 16384; decide, fun i _ _ => by show (0 : Int) ≤ 0 ∧ (0 : Int) ≤ 9; decide, fun i _ _ => by show (0 : Int) ≤ 0 ∧ (0 : Int) ≤ 56; decide⟩, ⟨by decide, fun i _ _ => by show (0 : Int) ≤ 0 ∧ (0 : Int) ≤ 1; decide, fun i _ _ => by show (0 : Int) ≤ 0 ∧ (0 : Int) ≤ 9; decide, fun i _ _ => by show (0 : Int) ≤ 0 ∧ (0 : Int) ≤ 56; decide⟩, ⟨rfl, rfl, rfl, rfl, fun x y _ _ _ _ => (b0 x).symm, fun s _ _ => rfl, fun i _ _ => rfl⟩, Or.inl ⟨rfl, rfl, rfl, rfl, rfl⟩, ⟨⟨rfl, by decide, fun j _ _ => ⟨by show (-128 : Int) ≤ 0 ∧ (0 : Int) ≤ 127; decide, rfl⟩⟩, fun i _ _ => ⟨⟨by show (0 : Int) ≤ 0; decide, by show (0 : Int) ≤ 56; decide, fun _ => by show (0 : Int) ≤ 40; decide⟩, fun _ => by show (0 : Int) ≤ 40; decide⟩⟩, ⟨rfl, by decide, rfl, rfl⟩, ⟨by decide, fun k k1 k2 => ?_⟩, ⟨Or.inl rfl, Or.inl rfl, Or.inl rfl, Or.inl rfl, Or.inl rfl⟩⟩
  have : k < 0 := k2
  omega
theorem arr_known {s : State} {args : Array Value} {ty : FieldType} (h : (Cond.arrayClass ty).before args s = true) : ∃ cA, ArrOfT s cA ty ∧ s.vm.findClass ("[" ++ ty.toString) = some cA := by
  obtain ⟨cA, kA, comp, h1, h2, h3⟩ := Cond.arrayClass_spec (args := args) (first := s) (s := s) (o := none) (idx := []) h
  exact ⟨cA, fun n z => ⟨fun k h => (by cases h), kA, h2, comp, h3⟩, h1⟩
theorem st_txt {args : Array Value} {s : State} {own txt : String} {idx len : Nat} {byt : List Int32} (h1 : (Cond.stringRef own idx txt).before args s = true) (hex : (Cond.exactly (.string own idx) "java/lang/String").before args s = true) (hco : (Cond.eq (.field (.string own idx) "java/lang/String" "coder" "B") (.int 0)).before args s = true) (har : (Cond.arrayOf (.field (.string own idx) "java/lang/String" "value" "[B") .byte).before args s = true) (hle : (Cond.eq (.length (.field (.string own idx) "java/lang/String" "value" "[B")) (.int (Int32.ofNat len))).before args s = true) (hel : ∀ j : Nat, j < len → (Cond.eq (.elem (.field (.string own idx) "java/lang/String" "value" "[B") (.int (Int32.ofNat j))) (.int (byt.getD j 0))).before args s = true) (hlen : len < 2 ^ 31) :
    ∃ a v : Nat, vk_R own idx txt a s ∧ va_O "java/lang/String" a (fun q : Nat => s.heap.size ≤ q) s s.heap ∧ va_OF "java/lang/String" "coder" "B" (.int 0) a (fun q : Nat => s.heap.size ≤ q) s s.heap ∧ va_OF "java/lang/String" "value" "[B" (.ref v) a (fun q : Nat => s.heap.size ≤ q) s s.heap ∧ va_T .byte v len (fun j => .int (byt.getD j 0)) (fun q : Nat => s.heap.size ≤ q) s s.heap := by
  have hA : ∀ a : Nat, a < s.heap.size → ¬ (fun q : Nat => s.heap.size ≤ q) a := fun a h q => absurd h (Nat.not_lt.mpr q)
  obtain ⟨a, c, cA, kA, q1, q2, q3, q4, q5, q6, -⟩ := Cond.exactly_spec (args := args) (first := s) (o := none) (s := s) (idx := []) (t := .string own idx) (cls := "java/lang/String") hex
  obtain ⟨t, ht, hT⟩ := va_Tof (f := fun j => .int (byt.getD j 0)) (A := fun q : Nat => s.heap.size ≤ q) hlen har (va_eqt hle) (fun j hj => va_eqt (hel j hj)) hA
  exact ⟨a, t, vk_R.of h1 q1, ⟨cA, q3, q5, by rw [q6]; exact q2, hA a (Array.getElem?_eq_some_iff.mp q3).1⟩, vk_OFof q1 (va_eqt hco) hA, vk_OFof q1 ht hA, hT⟩
set_option maxHeartbeats 4000000 in
theorem st_old {b : Nat} {s : State} (hgv : (Jvm.Cond.and given_1 narrow_1).before #[Value.ref b] s = true) (hts : ∀ w ∈ lw_tbl, w.before #[Value.ref b] s = true) : ∃ (t sa : Nat) (aK aV : Nat → Nat), va_Z "EaveRoofs$Roof" "QUARTER_TIMES" "[I" (.ref t) (fun q : Nat => s.heap.size ≤ q) s s.heap ∧ va_T .int t 10 (fun j : Nat => .int (Int32.ofInt (eQt j))) (fun q : Nat => s.heap.size ≤ q) s s.heap ∧ va_Z "java/lang/String" "COMPACT_STRINGS" "Z" (.int 1) (fun q : Nat => s.heap.size ≤ q) s s.heap ∧ va_Zq "jdk/internal/util/Preconditions" "SIOOBE_FORMATTER" "Ljava/util/function/BiFunction;" (fun q : Nat => s.heap.size ≤ q) s s.heap ∧ (∀ q ∈ eSr, vk_R q.1 q.2.1 q.2.2.1 (aK (q.2.2.2 - 110)) s) ∧ (∀ i : Nat, i < 6 → va_O "java/lang/String" (aK i) (fun q : Nat => s.heap.size ≤ q) s s.heap ∧ va_OF "java/lang/String" "coder" "B" (.int 0) (aK i) (fun q : Nat => s.heap.size ≤ q) s s.heap ∧ va_OF "java/lang/String" "value" "[B" (.ref (aV i)) (aK i) (fun q : Nat => s.heap.size ≤ q) s s.heap ∧ va_T .byte (aV i) (eSb.getD i []).length (fun j => .int ((eSb.getD i []).getD j 0)) (fun q : Nat => s.heap.size ≤ q) s s.heap) ∧ vx_Zq Bundle.tN "UNASSIGNED_STACK" Bundle.steD (fun q : Nat => s.heap.size ≤ q) s s.heap ∧ vx_Zq Bundle.tN "SUPPRESSED_SENTINEL" Bundle.listD (fun q : Nat => s.heap.size ≤ q) s s.heap ∧ vk_R "EaveRoofs" 270 "no such row" sa s := by
  have hs := flat_of_before _ hgv
  have hA : ∀ a : Nat, a < s.heap.size → ¬ (fun q : Nat => s.heap.size ≤ q) a := fun a h q => absurd h (Nat.not_lt.mpr q)
  obtain ⟨t, ht, hT⟩ := va_Tof (args := #[Value.ref b]) (s := s) (tm := .static "EaveRoofs$Roof" "QUARTER_TIMES" "[I") (ty := .int) (N := 10) (f := fun j : Nat => .int (Int32.ofInt (eQt j))) (A := fun q : Nat => s.heap.size ≤ q) (by decide) (hs _ (by decide +kernel)) (va_eqt (hs (.eq (.length (.static "EaveRoofs$Roof" "QUARTER_TIMES" "[I")) (.int 10)) (by decide +kernel))) (fun j hj => by
    match j, hj with
    | 0, _ => exact va_eqt (hs (.eq (.elem (.static "EaveRoofs$Roof" "QUARTER_TIMES" "[I") (.int 0)) (.int 0)) (by decide +kernel))
    | 1, _ => exact va_eqt (hs (.eq (.elem (.static "EaveRoofs$Roof" "QUARTER_TIMES" "[I") (.int 1)) (.int 2520)) (by decide +kernel))
    | 2, _ => exact va_eqt (hs (.eq (.elem (.static "EaveRoofs$Roof" "QUARTER_TIMES" "[I") (.int 2)) (.int 1260)) (by decide +kernel))
    | 3, _ => exact va_eqt (hs (.eq (.elem (.static "EaveRoofs$Roof" "QUARTER_TIMES" "[I") (.int 3)) (.int 840)) (by decide +kernel))
    | 4, _ => exact va_eqt (hs (.eq (.elem (.static "EaveRoofs$Roof" "QUARTER_TIMES" "[I") (.int 4)) (.int 630)) (by decide +kernel))
    | 5, _ => exact va_eqt (hs (.eq (.elem (.static "EaveRoofs$Roof" "QUARTER_TIMES" "[I") (.int 5)) (.int 504)) (by decide +kernel))
    | 6, _ => exact va_eqt (hs (.eq (.elem (.static "EaveRoofs$Roof" "QUARTER_TIMES" "[I") (.int 6)) (.int 420)) (by decide +kernel))
    | 7, _ => exact va_eqt (hs (.eq (.elem (.static "EaveRoofs$Roof" "QUARTER_TIMES" "[I") (.int 7)) (.int 360)) (by decide +kernel))
    | 8, _ => exact va_eqt (hs (.eq (.elem (.static "EaveRoofs$Roof" "QUARTER_TIMES" "[I") (.int 8)) (.int 315)) (by decide +kernel))
    | 9, _ => exact va_eqt (hs (.eq (.elem (.static "EaveRoofs$Roof" "QUARTER_TIMES" "[I") (.int 9)) (.int 280)) (by decide +kernel))
    | j + 10, h => exact absurd h (by omega)) hA
  obtain ⟨a0, v0, x0⟩ := st_txt (args := #[Value.ref b]) (s := s) (own := "EaveRoofs$Reader") (idx := 51) (txt := "house") (len := 5) (byt := [104, 111, 117, 115, 101]) (hts _ (eMem0 2 83 rfl)) (hs _ (by decide +kernel)) (hs _ (by decide +kernel)) (hs _ (by decide +kernel)) (hs (.eq (.length (.field (.string "EaveRoofs$Reader" 51) "java/lang/String" "value" "[B")) (.int 5)) (by decide +kernel)) (fun j hj => by
    match j, hj with
    | 0, _ => exact hs (.eq (.elem (.field (.string "EaveRoofs$Reader" 51) "java/lang/String" "value" "[B") (.int 0)) (.int 104)) (by decide +kernel)
    | 1, _ => exact hs (.eq (.elem (.field (.string "EaveRoofs$Reader" 51) "java/lang/String" "value" "[B") (.int 1)) (.int 111)) (by decide +kernel)
    | 2, _ => exact hs (.eq (.elem (.field (.string "EaveRoofs$Reader" 51) "java/lang/String" "value" "[B") (.int 2)) (.int 117)) (by decide +kernel)
    | 3, _ => exact hs (.eq (.elem (.field (.string "EaveRoofs$Reader" 51) "java/lang/String" "value" "[B") (.int 3)) (.int 115)) (by decide +kernel)
    | 4, _ => exact hs (.eq (.elem (.field (.string "EaveRoofs$Reader" 51) "java/lang/String" "value" "[B") (.int 4)) (.int 101)) (by decide +kernel)
    | j + 5, h => exact absurd h (by omega)) (by decide)
  obtain ⟨a1, v1, x1⟩ := st_txt (args := #[Value.ref b]) (s := s) (own := "EaveRoofs$Reader") (idx := 72) (txt := "speed") (len := 5) (byt := [115, 112, 101, 101, 100]) (hts _ (eMem0 2 156 rfl)) (hs _ (by decide +kernel)) (hs _ (by decide +kernel)) (hs _ (by decide +kernel)) (hs (.eq (.length (.field (.string "EaveRoofs$Reader" 72) "java/lang/String" "value" "[B")) (.int 5)) (by decide +kernel)) (fun j hj => by
    match j, hj with
    | 0, _ => exact hs (.eq (.elem (.field (.string "EaveRoofs$Reader" 72) "java/lang/String" "value" "[B") (.int 0)) (.int 115)) (by decide +kernel)
    | 1, _ => exact hs (.eq (.elem (.field (.string "EaveRoofs$Reader" 72) "java/lang/String" "value" "[B") (.int 1)) (.int 112)) (by decide +kernel)
    | 2, _ => exact hs (.eq (.elem (.field (.string "EaveRoofs$Reader" 72) "java/lang/String" "value" "[B") (.int 2)) (.int 101)) (by decide +kernel)
    | 3, _ => exact hs (.eq (.elem (.field (.string "EaveRoofs$Reader" 72) "java/lang/String" "value" "[B") (.int 3)) (.int 101)) (by decide +kernel)
    | 4, _ => exact hs (.eq (.elem (.field (.string "EaveRoofs$Reader" 72) "java/lang/String" "value" "[B") (.int 4)) (.int 100)) (by decide +kernel)
    | j + 5, h => exact absurd h (by omega)) (by decide)
  obtain ⟨a2, v2, x2⟩ := st_txt (args := #[Value.ref b]) (s := s) (own := "EaveRoofs$Reader") (idx := 77) (txt := "mark") (len := 4) (byt := [109, 97, 114, 107]) (hts _ (eMem0 2 177 rfl)) (hs _ (by decide +kernel)) (hs _ (by decide +kernel)) (hs _ (by decide +kernel)) (hs (.eq (.length (.field (.string "EaveRoofs$Reader" 77) "java/lang/String" "value" "[B")) (.int 4)) (by decide +kernel)) (fun j hj => by
    match j, hj with
    | 0, _ => exact hs (.eq (.elem (.field (.string "EaveRoofs$Reader" 77) "java/lang/String" "value" "[B") (.int 0)) (.int 109)) (by decide +kernel)
    | 1, _ => exact hs (.eq (.elem (.field (.string "EaveRoofs$Reader" 77) "java/lang/String" "value" "[B") (.int 1)) (.int 97)) (by decide +kernel)
    | 2, _ => exact hs (.eq (.elem (.field (.string "EaveRoofs$Reader" 77) "java/lang/String" "value" "[B") (.int 2)) (.int 114)) (by decide +kernel)
    | 3, _ => exact hs (.eq (.elem (.field (.string "EaveRoofs$Reader" 77) "java/lang/String" "value" "[B") (.int 3)) (.int 107)) (by decide +kernel)
    | j + 4, h => exact absurd h (by omega)) (by decide)
  obtain ⟨a3, v3, x3⟩ := st_txt (args := #[Value.ref b]) (s := s) (own := "EaveRoofsModel") (idx := 177) (txt := "house") (len := 5) (byt := [104, 111, 117, 115, 101]) (hts _ (eMem0 6 15 rfl)) (hs _ (by decide +kernel)) (hs _ (by decide +kernel)) (hs _ (by decide +kernel)) (hs (.eq (.length (.field (.string "EaveRoofsModel" 177) "java/lang/String" "value" "[B")) (.int 5)) (by decide +kernel)) (fun j hj => by
    match j, hj with
    | 0, _ => exact hs (.eq (.elem (.field (.string "EaveRoofsModel" 177) "java/lang/String" "value" "[B") (.int 0)) (.int 104)) (by decide +kernel)
    | 1, _ => exact hs (.eq (.elem (.field (.string "EaveRoofsModel" 177) "java/lang/String" "value" "[B") (.int 1)) (.int 111)) (by decide +kernel)
    | 2, _ => exact hs (.eq (.elem (.field (.string "EaveRoofsModel" 177) "java/lang/String" "value" "[B") (.int 2)) (.int 117)) (by decide +kernel)
    | 3, _ => exact hs (.eq (.elem (.field (.string "EaveRoofsModel" 177) "java/lang/String" "value" "[B") (.int 3)) (.int 115)) (by decide +kernel)
    | 4, _ => exact hs (.eq (.elem (.field (.string "EaveRoofsModel" 177) "java/lang/String" "value" "[B") (.int 4)) (.int 101)) (by decide +kernel)
    | j + 5, h => exact absurd h (by omega)) (by decide)
  obtain ⟨a4, v4, x4⟩ := st_txt (args := #[Value.ref b]) (s := s) (own := "EaveRoofsModel") (idx := 186) (txt := "speed") (len := 5) (byt := [115, 112, 101, 101, 100]) (hts _ (eMem0 6 41 rfl)) (hs _ (by decide +kernel)) (hs _ (by decide +kernel)) (hs _ (by decide +kernel)) (hs (.eq (.length (.field (.string "EaveRoofsModel" 186) "java/lang/String" "value" "[B")) (.int 5)) (by decide +kernel)) (fun j hj => by
    match j, hj with
    | 0, _ => exact hs (.eq (.elem (.field (.string "EaveRoofsModel" 186) "java/lang/String" "value" "[B") (.int 0)) (.int 115)) (by decide +kernel)
    | 1, _ => exact hs (.eq (.elem (.field (.string "EaveRoofsModel" 186) "java/lang/String" "value" "[B") (.int 1)) (.int 112)) (by decide +kernel)
    | 2, _ => exact hs (.eq (.elem (.field (.string "EaveRoofsModel" 186) "java/lang/String" "value" "[B") (.int 2)) (.int 101)) (by decide +kernel)
    | 3, _ => exact hs (.eq (.elem (.field (.string "EaveRoofsModel" 186) "java/lang/String" "value" "[B") (.int 3)) (.int 101)) (by decide +kernel)
    | 4, _ => exact hs (.eq (.elem (.field (.string "EaveRoofsModel" 186) "java/lang/String" "value" "[B") (.int 4)) (.int 100)) (by decide +kernel)
    | j + 5, h => exact absurd h (by omega)) (by decide)
  obtain ⟨a5, v5, x5⟩ := st_txt (args := #[Value.ref b]) (s := s) (own := "EaveRoofsModel") (idx := 199) (txt := "mark") (len := 4) (byt := [109, 97, 114, 107]) (hts _ (eMem0 6 50 rfl)) (hs _ (by decide +kernel)) (hs _ (by decide +kernel)) (hs _ (by decide +kernel)) (hs (.eq (.length (.field (.string "EaveRoofsModel" 199) "java/lang/String" "value" "[B")) (.int 4)) (by decide +kernel)) (fun j hj => by
    match j, hj with
    | 0, _ => exact hs (.eq (.elem (.field (.string "EaveRoofsModel" 199) "java/lang/String" "value" "[B") (.int 0)) (.int 109)) (by decide +kernel)
    | 1, _ => exact hs (.eq (.elem (.field (.string "EaveRoofsModel" 199) "java/lang/String" "value" "[B") (.int 1)) (.int 97)) (by decide +kernel)
    | 2, _ => exact hs (.eq (.elem (.field (.string "EaveRoofsModel" 199) "java/lang/String" "value" "[B") (.int 2)) (.int 114)) (by decide +kernel)
    | 3, _ => exact hs (.eq (.elem (.field (.string "EaveRoofsModel" 199) "java/lang/String" "value" "[B") (.int 3)) (.int 107)) (by decide +kernel)
    | j + 4, h => exact absurd h (by omega)) (by decide)
  obtain ⟨sa, c, cA, kA, q1, -⟩ := Cond.exactly_spec (args := #[Value.ref b]) (first := s) (o := none) (s := s) (idx := []) (t := .string "EaveRoofs" 270) (cls := "java/lang/String") (hs _ (by decide +kernel))
  refine ⟨t, sa, fun i => [a0, a1, a2, a3, a4, a5].getD i 0, fun i => [v0, v1, v2, v3, v4, v5].getD i 0, va_Zof (hts _ (eMem0 3 153 rfl)) (hts _ (eMem0 1 6 rfl)) ht hA, hT, va_Zof (hts _ (eMem0 2 97 rfl)) (hts _ (eMem0 1 11 rfl)) (va_eqt (hs (.eq (.static "java/lang/String" "COMPACT_STRINGS" "Z") (.int 1)) (by decide +kernel))) hA, va_Zqof (hts _ (eMem0 2 113 rfl)) (hts _ (eMem0 1 13 rfl)) (hs _ (by decide +kernel)) hA, ?_, ?_, vx_Zqof (hts _ (eMem0 4 230 rfl)) (hts _ (eMem0 1 18 rfl)) (hs _ (by decide +kernel)) hA, vx_Zqof (hts _ (eMem0 4 232 rfl)) (hts _ (eMem0 1 18 rfl)) (hs _ (by decide +kernel)) hA, vk_R.of (hts _ (eMem0 5 2 rfl)) q1⟩
  · exact List.forall_mem_cons.mpr ⟨x0.1, List.forall_mem_cons.mpr ⟨x1.1, List.forall_mem_cons.mpr ⟨x2.1, List.forall_mem_cons.mpr ⟨x3.1, List.forall_mem_cons.mpr ⟨x4.1, List.forall_mem_cons.mpr ⟨x5.1, fun _ h => absurd h List.not_mem_nil⟩⟩⟩⟩⟩⟩
  · intro i hi
    match i, hi with
    | 0, _ => exact x0.2
    | 1, _ => exact x1.2
    | 2, _ => exact x2.2
    | 3, _ => exact x3.2
    | 4, _ => exact x4.2
    | 5, _ => exact x5.2
    | i + 6, h => exact absurd h (by omega)
