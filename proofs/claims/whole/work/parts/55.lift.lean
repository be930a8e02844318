/-! stands and the cells between lines: of s places one is a stand's own, the other (s = 2) between it and the next -/
def bq (s o i : Int) : Int := (i - o) / s
def br (s o i : Int) : Int := (i - o) % s
theorem bq_eq {s o i : Int} (hs : s = 1 ∨ s = 2) : i = o + s * bq s o i + br s o i ∧ (br s o i = 0 ∨ (s = 2 ∧ br s o i = 1)) := by
  unfold bq br
  rcases hs with rfl | rfl <;> omega
theorem bq_al {s o k : Int} (hs : s = 1 ∨ s = 2) : bq s o (o + s * k) = k ∧ br s o (o + s * k) = 0 := by
  unfold bq br
  rcases hs with rfl | rfl <;> omega
theorem bq_mid {o k : Int} : bq 2 o (o + 2 * k + 1) = k ∧ br 2 o (o + 2 * k + 1) = 1 := by
  unfold bq br
  omega
theorem bq_dn {s o i : Int} (hs : s = 1 ∨ s = 2) (h : br s o i = 1) : bq s o (i - 1) = bq s o i ∧ br s o (i - 1) = 0 := by
  unfold bq br at *
  rcases hs with rfl | rfl <;> omega
theorem bq_up {s o i : Int} (hs : s = 1 ∨ s = 2) : bq s o (i + 1) = bq s o i ∨ bq s o (i + 1) = bq s o i + 1 := by
  unfold bq
  rcases hs with rfl | rfl <;> omega
theorem bq_lt {s o i k : Int} (hs : s = 1 ∨ s = 2) : i < o + s * k ↔ bq s o i < k := by
  unfold bq
  rcases hs with rfl | rfl <;> omega
/-- a cell between lines is left, where T tells the stands -/
def lf (i0 j0 s t : Int) (T : eP) : eP := fun i j => T (bq s i0 i) (bq t j0 j) ∧ (br s i0 i = 1 → T (bq s i0 i + 1) (bq t j0 j)) ∧ (br t j0 j = 1 → T (bq s i0 i) (bq t j0 j + 1)) ∧ (br s i0 i = 1 → br t j0 j = 1 → T (bq s i0 i + 1) (bq t j0 j + 1))
/-- the same, of a part F of the stands -/
def lg (i0 j0 s t : Int) (T F : eP) : eP := fun i j => lf i0 j0 s t T i j ∧ F (bq s i0 i) (bq t j0 j)
section LFT
variable {i0 j0 s t : Int} {T F : eP}
theorem lg_al (hs : s = 1 ∨ s = 2) (ht : t = 1 ∨ t = 2) (hF : ∀ a b, F a b → T a b) {k l : Int} (h : F k l) : lg i0 j0 s t T F (i0 + s * k) (j0 + t * l) := by
  unfold lg lf
  rw [(bq_al hs).1, (bq_al hs).2, (bq_al ht).1, (bq_al ht).2]
  exact ⟨⟨hF k l h, fun z => absurd z (by decide), fun z => absurd z (by decide), fun z => absurd z (by decide)⟩, h⟩
theorem lg_w (hs : s = 1 ∨ s = 2) {i j : Int} (h : lg i0 j0 s t T F i j) (hi : br s i0 i = 1) : lg i0 j0 s t T F (i - 1) j := by
  obtain ⟨e1, e2⟩ := bq_dn hs hi
  unfold lg lf at *
  rw [e1, e2]
  exact ⟨⟨h.1.1, fun z => absurd z (by decide), h.1.2.2.1, fun z => absurd z (by decide)⟩, h.2⟩
theorem lg_n (ht : t = 1 ∨ t = 2) {i j : Int} (h : lg i0 j0 s t T F i j) (hj : br t j0 j = 1) : lg i0 j0 s t T F i (j - 1) := by
  obtain ⟨e1, e2⟩ := bq_dn ht hj
  unfold lg lf at *
  rw [e1, e2]
  exact ⟨⟨h.1.1, h.1.2.1, fun z => absurd z (by decide), fun _ z => absurd z (by decide)⟩, h.2⟩
theorem bq_adj (hs : s = 1 ∨ s = 2) (ht : t = 1 ∨ t = 2) {a b c d : Int} (h : adj a b c d) : (bq s i0 c = bq s i0 a ∧ bq t j0 d = bq t j0 b) ∨ adj (bq s i0 a) (bq t j0 b) (bq s i0 c) (bq t j0 d) := by
  unfold adj at *
  rcases h with ⟨rfl, rfl | rfl⟩ | ⟨rfl, rfl | rfl⟩
  · rcases bq_up (o := j0) (i := b) ht with e | e <;> omega
  · rcases bq_up (o := j0) (i := b - 1) ht with e | e <;> rw [show b - 1 + 1 = b by omega] at e <;> omega
  · rcases bq_up (o := i0) (i := a) hs with e | e <;> omega
  · rcases bq_up (o := i0) (i := a - 1) hs with e | e <;> rw [show a - 1 + 1 = a by omega] at e <;> omega
theorem lg_down (hs : s = 1 ∨ s = 2) (ht : t = 1 ∨ t = 2) {i j a b : Int} (h : cn (lg i0 j0 s t T F) i j a b) : cn F (bq s i0 i) (bq t j0 j) (bq s i0 a) (bq t j0 b) := by
  refine h (fun a b => cn F (bq s i0 i) (bq t j0 j) (bq s i0 a) (bq t j0 b)) cn_rf (fun a b c d q hF ha => ?_)
  rcases bq_adj (i0 := i0) (j0 := j0) hs ht ha with e | e
  · show cn F (bq s i0 i) (bq t j0 j) (bq s i0 c) (bq t j0 d)
    rw [e.1, e.2]
    exact q
  · exact cn_st q hF.2 e
theorem lg_base (hs : s = 1 ∨ s = 2) (ht : t = 1 ∨ t = 2) {i j : Int} (h : lg i0 j0 s t T F i j) : lg i0 j0 s t T F (i0 + s * bq s i0 i) (j0 + t * bq t j0 j) ∧ cn (lg i0 j0 s t T F) i j (i0 + s * bq s i0 i) (j0 + t * bq t j0 j) := by
  have step1 : ∃ i', i' = i0 + s * bq s i0 i ∧ lg i0 j0 s t T F i' j ∧ cn (lg i0 j0 s t T F) i j i' j := by
    obtain ⟨e1, e2⟩ := bq_eq (o := i0) (i := i) hs
    rcases e2 with e2 | e2
    · exact ⟨i, by omega, h, cn_rf⟩
    · exact ⟨i - 1, by omega, lg_w hs h e2.2, cn_st cn_rf (lg_w hs h e2.2) (by unfold adj; omega)⟩
  obtain ⟨i', r1, r2, r3⟩ := step1
  subst r1
  obtain ⟨e1, e2⟩ := bq_eq (o := j0) (i := j) ht
  rcases e2 with e2 | e2
  · have : j0 + t * bq t j0 j = j := by omega
    rw [this]
    exact ⟨r2, r3⟩
  · have : j0 + t * bq t j0 j = j - 1 := by omega
    rw [this]
    exact ⟨lg_n ht r2 e2.2, cn_st r3 (lg_n ht r2 e2.2) (by unfold adj; omega)⟩
theorem lg_hor (hs : s = 1 ∨ s = 2) (ht : t = 1 ∨ t = 2) (hF : ∀ a b, F a b → T a b) {k l : Int} (h1 : F k l) (h2 : F (k + 1) l) : cn (lg i0 j0 s t T F) (i0 + s * k) (j0 + t * l) (i0 + s * (k + 1)) (j0 + t * l) := by
  rcases hs with rfl | rfl
  · exact cn_st cn_rf (lg_al (Or.inl rfl) ht hF h2) (by unfold adj; omega)
  · have hm : lg i0 j0 2 t T F (i0 + 2 * k + 1) (j0 + t * l) := by
      unfold lg lf
      rw [bq_mid.1, bq_mid.2, (bq_al ht).1, (bq_al ht).2]
      exact ⟨⟨hF k l h1, fun _ => hF _ _ h2, fun z => absurd z (by decide), fun _ z => absurd z (by decide)⟩, h1⟩
    exact cn_st (cn_st cn_rf hm (by unfold adj; omega)) (lg_al (Or.inr rfl) ht hF h2) (by unfold adj; omega)
theorem lg_ver (hs : s = 1 ∨ s = 2) (ht : t = 1 ∨ t = 2) (hF : ∀ a b, F a b → T a b) {k l : Int} (h1 : F k l) (h2 : F k (l + 1)) : cn (lg i0 j0 s t T F) (i0 + s * k) (j0 + t * l) (i0 + s * k) (j0 + t * (l + 1)) := by
  rcases ht with rfl | rfl
  · exact cn_st cn_rf (lg_al hs (Or.inl rfl) hF h2) (by unfold adj; omega)
  · have hm : lg i0 j0 s 2 T F (i0 + s * k) (j0 + 2 * l + 1) := by
      unfold lg lf
      rw [bq_mid.1, bq_mid.2, (bq_al hs).1, (bq_al hs).2]
      exact ⟨⟨hF k l h1, fun z => absurd z (by decide), fun _ => hF _ _ h2, fun z => absurd z (by decide)⟩, h1⟩
    exact cn_st (cn_st cn_rf hm (by unfold adj; omega)) (lg_al hs (Or.inr rfl) hF h2) (by unfold adj; omega)
theorem lg_up (hs : s = 1 ∨ s = 2) (ht : t = 1 ∨ t = 2) (hF : ∀ a b, F a b → T a b) {k l c d : Int} (h0 : F k l) (h : cn F k l c d) : cn (lg i0 j0 s t T F) (i0 + s * k) (j0 + t * l) (i0 + s * c) (j0 + t * d) := by
  refine (h (fun c d => F c d ∧ cn (lg i0 j0 s t T F) (i0 + s * k) (j0 + t * l) (i0 + s * c) (j0 + t * d)) ⟨h0, cn_rf⟩ (fun a b c d q hFc ha => ⟨hFc, cn_tr q.2 ?_⟩)).2
  rcases ha with ⟨rfl, rfl | rfl⟩ | ⟨rfl, rfl | rfl⟩
  · exact lg_ver hs ht hF q.1 hFc
  · have := lg_ver (i0 := i0) (j0 := j0) hs ht hF hFc (by rw [show b - 1 + 1 = b by omega]; exact q.1)
    rw [show b - 1 + 1 = b by omega] at this
    exact cn_sy (lg_al hs ht hF hFc) this
  · exact lg_hor hs ht hF q.1 hFc
  · have := lg_hor (i0 := i0) (j0 := j0) hs ht hF hFc (by rw [show a - 1 + 1 = a by omega]; exact q.1)
    rw [show a - 1 + 1 = a by omega] at this
    exact cn_sy (lg_al hs ht hF hFc) this
theorem lg_mn (hs : s = 1 ∨ s = 2) (ht : t = 1 ∨ t = 2) (hF : ∀ a b, F a b → T a b) {k l : Int} (h : isMn F k l) : isMn (lg i0 j0 s t T F) (i0 + s * k) (j0 + t * l) := by
  refine ⟨lg_al hs ht hF h.1, fun a b q hr => h.2 _ _ q.2 ?_⟩
  unfold rl at *
  rcases hr with hr | hr
  · exact Or.inl ((bq_lt ht).mp hr)
  · refine Or.inr ⟨?_, (bq_lt hs).mp hr.2⟩
    rw [hr.1]
    exact (bq_al ht).1
theorem lg_mn' (hs : s = 1 ∨ s = 2) (ht : t = 1 ∨ t = 2) (hF : ∀ a b, F a b → T a b) {i j : Int} (h : isMn (lg i0 j0 s t T F) i j) : isMn F (bq s i0 i) (bq t j0 j) ∧ i = i0 + s * bq s i0 i ∧ j = j0 + t * bq t j0 j := by
  obtain ⟨b1, b2⟩ := lg_base hs ht h.1
  have e := h.2 _ _ b1
  obtain ⟨x1, x2⟩ := bq_eq (o := i0) (i := i) hs
  obtain ⟨y1, y2⟩ := bq_eq (o := j0) (i := j) ht
  have hi : i = i0 + s * bq s i0 i := by unfold rl at e; omega
  have hj : j = j0 + t * bq t j0 j := by unfold rl at e; omega
  refine ⟨⟨h.1.2, fun a b q hr => ?_⟩, hi, hj⟩
  refine h.2 _ _ (lg_al hs ht hF q) ?_
  unfold rl at *
  rcases hr with hr | hr
  · refine Or.inl ?_
    have : t * b < t * bq t j0 j := by rcases ht with rfl | rfl <;> omega
    omega
  · refine Or.inr ⟨by rw [hr.1]; exact hj.symm, ?_⟩
    have : s * a < s * bq s i0 i := by rcases hs with rfl | rfl <;> omega
    omega
theorem lg_pc (hs : s = 1 ∨ s = 2) (ht : t = 1 ∨ t = 2) (hF : ∀ a b, F a b → T a b) (i j : Int) : pc (lg i0 j0 s t T F) i j ↔ lf i0 j0 s t T i j ∧ pc F (bq s i0 i) (bq t j0 j) := by
  constructor
  · rintro ⟨x, y, h1, h2⟩
    obtain ⟨m1, m2, m3⟩ := lg_mn' hs ht hF h1
    exact ⟨(cn_in h1.1 h2).1, _, _, m1, lg_down hs ht h2⟩
  · rintro ⟨h0, x, y, h1, h2⟩
    have hg : lg i0 j0 s t T F i j := ⟨h0, cn_in h1.1 h2⟩
    exact ⟨_, _, lg_mn hs ht hF h1, cn_tr (lg_up hs ht hF h1.1 h2) (cn_sy hg (lg_base hs ht hg).2)⟩
theorem lg_nxt (hs : s = 1 ∨ s = 2) (ht : t = 1 ∨ t = 2) (hF : ∀ a b, F a b → T a b) : nxt (lg i0 j0 s t T F) = lg i0 j0 s t T (nxt F) := by
  funext i j
  apply propext
  constructor
  · intro h
    exact ⟨h.1.1, h.1.2, fun z => h.2 ((lg_pc hs ht hF i j).mpr ⟨h.1.1, z⟩)⟩
  · intro h
    exact ⟨⟨h.1, h.2.1⟩, fun z => h.2.2 ((lg_pc hs ht hF i j).mp z).2⟩
theorem lf_itr (hs : s = 1 ∨ s = 2) (ht : t = 1 ∨ t = 2) : ∀ n : Nat, itr (lf i0 j0 s t T) n = lg i0 j0 s t T (itr T n) := by
  intro n
  induction n with
  | zero =>
    funext i j
    apply propext
    exact ⟨fun h => ⟨h, h.1⟩, fun h => h.1⟩
  | succ n ih =>
    rw [itr, ih, lg_nxt hs ht (fun a b h => itr_sub n a b h)]
    rfl
theorem lf_np (hs : s = 1 ∨ s = 2) (ht : t = 1 ∨ t = 2) {n : Nat} : isNp (lf i0 j0 s t T) n ↔ isNp T n := by
  unfold isNp
  constructor
  · intro h
    refine ⟨fun i hi => ?_, fun x y q => h.2 (i0 + s * x) (j0 + t * y) ?_⟩
    · obtain ⟨x, y, q⟩ := h.1 i hi
      rw [lf_itr hs ht] at q
      exact ⟨_, _, q.2⟩
    · rw [lf_itr hs ht]
      exact lg_al hs ht (fun a b h => itr_sub n a b h) q
  · intro h
    refine ⟨fun i hi => ?_, fun x y q => ?_⟩
    · obtain ⟨x, y, q⟩ := h.1 i hi
      rw [lf_itr hs ht]
      exact ⟨_, _, lg_al hs ht (fun a b h => itr_sub i a b h) q⟩
    · rw [lf_itr hs ht] at q
      exact h.2 _ _ q.2
theorem lf_pc (hs : s = 1 ∨ s = 2) (ht : t = 1 ∨ t = 2) (n : Nat) (i j : Int) : pc (itr (lf i0 j0 s t T) n) i j ↔ lf i0 j0 s t T i j ∧ pc (itr T n) (bq s i0 i) (bq t j0 j) := by
  rw [lf_itr hs ht]
  exact lg_pc hs ht (fun a b h => itr_sub n a b h) i j
end LFT
