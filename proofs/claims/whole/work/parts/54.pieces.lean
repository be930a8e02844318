/-! what hangs together, piece by piece -/
abbrev eP : Type := Int → Int → Prop
def adj (a b c d : Int) : Prop := (c = a ∧ (d = b + 1 ∨ d = b - 1)) ∨ (d = b ∧ (c = a + 1 ∨ c = a - 1))
theorem adj_sy {a b c d : Int} (h : adj a b c d) : adj c d a b := by unfold adj at *; omega
/-- from x, y one comes to a, b over cells of F -/
def cn (F : eP) (x y a b : Int) : Prop := ∀ P : eP, P x y → (∀ a b c d, P a b → F c d → adj a b c d → P c d) → P a b
theorem cn_rf {F : eP} {x y : Int} : cn F x y x y := fun _ h _ => h
theorem cn_st {F : eP} {x y a b c d : Int} (h : cn F x y a b) (hF : F c d) (ha : adj a b c d) : cn F x y c d := fun P h0 hs => hs _ _ _ _ (h P h0 hs) hF ha
theorem cn_tr {F : eP} {x y a b c d : Int} (h1 : cn F x y a b) (h2 : cn F a b c d) : cn F x y c d := h2 (cn F x y) h1 (fun _ _ _ _ h hF ha => cn_st h hF ha)
theorem cn_in {F : eP} {x y a b : Int} (hx : F x y) (h : cn F x y a b) : F a b := h F hx (fun _ _ _ _ _ hF _ => hF)
theorem cn_sy {F : eP} {x y a b : Int} (hx : F x y) (h : cn F x y a b) : cn F a b x y := (h (fun a b => F a b ∧ cn F a b x y) ⟨hx, cn_rf⟩ (fun _ _ _ _ q hF ha => ⟨hF, cn_tr (cn_st cn_rf q.1 (adj_sy ha)) q.2⟩)).2
theorem cn_mono {F G : eP} {x y a b : Int} (hFG : ∀ a b, F a b → G a b) (h : cn F x y a b) : cn G x y a b := h (cn G x y) cn_rf (fun _ _ _ _ q hF ha => cn_st q (hFG _ _ hF) ha)
/-- ahead, by rows -/
def rl (x y a b : Int) : Prop := y < b ∨ (y = b ∧ x < a)
def isMn (F : eP) (x y : Int) : Prop := F x y ∧ ∀ a b, F a b → ¬ rl a b x y
theorem isMn_one {F : eP} {x y a b : Int} (h1 : isMn F x y) (h2 : isMn F a b) : x = a ∧ y = b := by
  have e1 := h1.2 a b h2.1
  have e2 := h2.2 x y h1.1
  unfold rl at e1 e2
  omega
/-- the first piece, and what is left without it -/
def pc (F : eP) : eP := fun a b => ∃ x y, isMn F x y ∧ cn F x y a b
def nxt (F : eP) : eP := fun a b => F a b ∧ ¬ pc F a b
def itr (F : eP) : Nat → eP
  | 0 => F
  | n + 1 => nxt (itr F n)
theorem itr_nxt (F : eP) : ∀ n : Nat, itr (nxt F) n = itr F (n + 1) := by
  intro n
  induction n with
  | zero => rfl
  | succ n ih => rw [itr, ih]; rfl
theorem itr_sub {F : eP} : ∀ (n : Nat) (a b : Int), itr F n a b → F a b := by
  intro n
  induction n with
  | zero => intro a b h; exact h
  | succ n ih => intro a b h; exact ih a b h.1
theorem pc_in {F : eP} {a b : Int} (h : pc F a b) : F a b := by
  obtain ⟨x, y, h1, h2⟩ := h
  exact cn_in h1.1 h2
theorem pc_st {F : eP} {a b c d : Int} (h : pc F a b) (hF : F c d) (ha : adj a b c d) : pc F c d := by
  obtain ⟨x, y, h1, h2⟩ := h
  exact ⟨x, y, h1, cn_st h2 hF ha⟩
theorem cn_nxt {F : eP} {a b c d : Int} (h0 : nxt F a b) (h : cn F a b c d) : cn (nxt F) a b c d := by
  refine (h (fun c d => nxt F c d ∧ cn (nxt F) a b c d) ⟨h0, cn_rf⟩ (fun c d c' d' q hF ha => ?_)).2
  have hn : nxt F c' d' := ⟨hF, fun z => q.1.2 (pc_st z q.1.1 (adj_sy ha))⟩
  exact ⟨hn, cn_st q.2 hn ha⟩
/-- F lies in W by H cells -/
def sup (W H : Int) (F : eP) : Prop := ∀ a b, F a b → 0 ≤ a ∧ a < W ∧ 0 ≤ b ∧ b < H
theorem sup_nxt {W H : Int} {F : eP} (h : sup W H F) : sup W H (nxt F) := fun a b q => h a b q.1
theorem sup_itr {W H : Int} {F : eP} (h : sup W H F) (n : Nat) : sup W H (itr F n) := fun a b q => h a b (itr_sub n a b q)
theorem isMn_ex {W H : Int} {F : eP} (hs : sup W H F) {a b : Int} (h : F a b) : ∃ x y, isMn F x y := by
  have key : ∀ (n : Nat) (a b : Int), F a b → (b * W + a).toNat ≤ n → ∃ x y, isMn F x y := by
    intro n
    induction n with
    | zero =>
      intro a b h hn
      have s1 := hs a b h
      have p1 : 0 ≤ b * W := Int.mul_nonneg (by omega) (by omega)
      refine ⟨a, b, h, fun c d hF hr => ?_⟩
      have s2 := hs c d hF
      have p2 : 0 ≤ d * W := Int.mul_nonneg (by omega) (by omega)
      rcases hr with hr | hr
      · have : (d + 1) * W ≤ b * W := Int.mul_le_mul_of_nonneg_right (by omega) (by omega)
        rw [Int.add_mul] at this
        omega
      · rw [hr.1] at p2; omega
    | succ n ih =>
      intro a b h hn
      have s1 := hs a b h
      have p1 : 0 ≤ b * W := Int.mul_nonneg (by omega) (by omega)
      by_cases hm : ∃ c d, F c d ∧ rl c d a b
      · obtain ⟨c, d, hF, hr⟩ := hm
        have s2 := hs c d hF
        have p2 : 0 ≤ d * W := Int.mul_nonneg (by omega) (by omega)
        refine ih c d hF ?_
        rcases hr with hr | hr
        · have : (d + 1) * W ≤ b * W := Int.mul_le_mul_of_nonneg_right (by omega) (by omega)
          rw [Int.add_mul] at this
          omega
        · rw [hr.1] at p2 ⊢; omega
      · exact ⟨a, b, h, fun c d hF hr => hm ⟨c, d, hF, hr⟩⟩
  exact key _ a b h (Nat.le_refl _)
theorem bI_01 (P : Prop) : 0 ≤ bI P ∧ bI P ≤ 1 := by have := bI_b P; omega
/-- how many cells -/
noncomputable def ctF (W H : Int) (F : eP) : Int := sumI (fun y => sumI (fun x => bI (F x y)) 0 W) 0 H
theorem sumI_0 (a b : Int) : sumI (fun _ => 0) a b = 0 := by
  by_cases h : a ≤ b
  · have := sumI_const 0 a (b - a).toNat
    rw [show a + ((b - a).toNat : Int) = b by omega] at this
    omega
  · unfold sumI; rw [show (b - a).toNat = 0 by omega]; rfl
theorem sumI_one (W : Int) (hW : 0 ≤ W) : sumI (fun _ => 1) 0 W = W := by
  have := sumI_const 1 0 W.toNat
  rw [show (0 : Int) + (W.toNat : Int) = W by omega] at this
  omega
theorem sumI_cc (W c : Int) (hW : 0 ≤ W) : sumI (fun _ => c) 0 W = W * c := by
  have := sumI_const c 0 W.toNat
  rw [show (0 : Int) + (W.toNat : Int) = W by omega, show ((W.toNat : Nat) : Int) = W by omega] at this
  exact this
theorem sumI_nn {f : Int → Int} {a b : Int} (h : ∀ i, a ≤ i → i < b → 0 ≤ f i) : 0 ≤ sumI f a b := by
  have := sumI_le (f := fun _ => 0) (g := f) h
  rw [sumI_0] at this
  exact this
theorem sumI_z {f : Int → Int} {a b : Int} (h : ∀ i, a ≤ i → i < b → f i = 0) : sumI f a b = 0 := by
  rw [sumI_congr (g := fun _ => 0) h, sumI_0]
theorem ctF_b {W H : Int} (hW : 0 ≤ W) (hH : 0 ≤ H) (F : eP) : 0 ≤ ctF W H F ∧ ctF W H F ≤ H * W := by
  unfold ctF
  refine ⟨?_, ?_⟩
  · exact sumI_nn (fun i _ _ => sumI_nn (fun j _ _ => (bI_01 _).1))
  · rw [← sumI_cc H W hH]
    refine sumI_le (fun i _ _ => ?_)
    show sumI (fun x => bI (F x i)) 0 W ≤ W
    have := sumI_le (f := fun x => bI (F x i)) (g := fun _ => 1) (a := 0) (b := W) (fun j _ _ => (bI_01 _).2)
    rw [sumI_one W hW] at this
    exact this
theorem bI_le {P Q : Prop} (h : P → Q) : bI P ≤ bI Q := by
  by_cases hp : P
  · rw [bI_1 hp, bI_1 (h hp)]; exact Int.le_refl _
  · rw [bI_0 hp]; exact (bI_01 Q).1
theorem ctF_lt {W H : Int} {F G : eP} (hG : ∀ a b, G a b → F a b) {x y : Int} (hs : 0 ≤ x ∧ x < W ∧ 0 ≤ y ∧ y < H) (h1 : F x y) (h2 : ¬ G x y) : ctF W H G < ctF W H F := by
  unfold ctF
  refine sumI_lt (j := y) (fun i _ _ => sumI_le (fun j _ _ => bI_le (hG j i))) hs.2.2.1 hs.2.2.2 ?_
  exact sumI_lt (j := x) (fun j _ _ => bI_le (hG j y)) hs.1 hs.2.1 (by show bI (G x y) < bI (F x y); rw [bI_1 h1, bI_0 h2]; decide)
/-- F has n pieces -/
def isNp (F : eP) (n : Nat) : Prop := (∀ i : Nat, i < n → ∃ x y, itr F i x y) ∧ ∀ x y, ¬ itr F n x y
theorem isNp_one {F : eP} {n m : Nat} (h1 : isNp F n) (h2 : isNp F m) : n = m := by
  rcases Nat.lt_trichotomy n m with h | h | h
  · obtain ⟨x, y, q⟩ := h2.1 n h
    exact absurd q (h1.2 x y)
  · exact h
  · obtain ⟨x, y, q⟩ := h1.1 m h
    exact absurd q (h2.2 x y)
theorem isNp_succ {F : eP} {n : Nat} {x y : Int} (h0 : F x y) (h : isNp (nxt F) n) : isNp F (n + 1) := by
  refine ⟨fun i hi => ?_, fun a b q => h.2 a b (by rw [itr_nxt]; exact q)⟩
  cases i with
  | zero => exact ⟨x, y, h0⟩
  | succ i =>
    obtain ⟨a, b, q⟩ := h.1 i (by omega)
    rw [itr_nxt] at q
    exact ⟨a, b, q⟩
theorem isNp_nxt {F : eP} {n : Nat} (h : isNp F (n + 1)) : isNp (nxt F) n := by
  refine ⟨fun i hi => ?_, fun a b q => h.2 a b (by rw [itr_nxt] at q; exact q)⟩
  obtain ⟨a, b, q⟩ := h.1 (i + 1) (by omega)
  rw [itr_nxt]
  exact ⟨a, b, q⟩
theorem isNp_ex {W H : Int} (hW : 0 ≤ W) (hH : 0 ≤ H) {F : eP} (hs : sup W H F) : ∃ n, isNp F n ∧ (n : Int) ≤ ctF W H F := by
  have key : ∀ (N : Nat) (F : eP), sup W H F → ctF W H F ≤ N → ∃ n, isNp F n ∧ (n : Int) ≤ ctF W H F := by
    intro N
    induction N with
    | zero =>
      intro F hs hc
      refine ⟨0, ⟨fun i hi => absurd hi (by omega), fun x y q => ?_⟩, (ctF_b hW hH F).1⟩
      have := ctF_lt (W := W) (H := H) (F := F) (G := fun _ _ => False) (fun _ _ z => z.elim) (hs x y q) q (fun z => z)
      have := (ctF_b hW hH (fun _ _ => False)).1
      omega
    | succ N ih =>
      intro F hs hc
      by_cases he : ∃ x y, F x y
      · obtain ⟨x, y, q⟩ := he
        obtain ⟨u, v, hm⟩ := isMn_ex hs q
        have hl := ctF_lt (W := W) (H := H) (F := F) (G := nxt F) (fun _ _ z => z.1) (hs u v hm.1) hm.1 (fun z => z.2 ⟨u, v, hm, cn_rf⟩)
        obtain ⟨n, h1, h2⟩ := ih (nxt F) (sup_nxt hs) (by omega)
        exact ⟨n + 1, isNp_succ q h1, by omega⟩
      · exact ⟨0, ⟨fun i hi => absurd hi (by omega), fun x y q => he ⟨x, y, q⟩⟩, (ctF_b hW hH F).1⟩
  exact key (ctF W H F).toNat F hs (by omega)
/-- the first cells of the pieces -/
def fsC (F : eP) (x y : Int) : Prop := F x y ∧ ∀ a b, cn F x y a b → ¬ rl a b x y
theorem rl_tot {x y a b : Int} (h1 : ¬ rl x y a b) (h2 : ¬ rl a b x y) : x = a ∧ y = b := by unfold rl at *; omega
theorem fsC_mn {F : eP} {x y : Int} (h : isMn F x y) : fsC F x y := ⟨h.1, fun _ _ q => h.2 _ _ (cn_in h.1 q)⟩
theorem fsC_nxt {F : eP} {x y a b : Int} (hm : isMn F x y) (hne : ¬ (a = x ∧ b = y)) : fsC (nxt F) a b ↔ fsC F a b := by
  constructor
  · intro h
    exact ⟨h.1.1, fun c d q => h.2 c d (cn_nxt h.1 q)⟩
  · intro h
    have hn : nxt F a b := by
      refine ⟨h.1, fun z => ?_⟩
      obtain ⟨u, v, m, q⟩ := z
      obtain ⟨rfl, rfl⟩ := isMn_one hm m
      have e1 := h.2 _ _ (cn_sy hm.1 q)
      have e2 := hm.2 a b h.1
      exact hne (rl_tot e2 e1)
    exact ⟨hn, fun c d q => h.2 c d (cn_mono (fun _ _ z => z.1) q)⟩
noncomputable def NQ (W H : Int) (F Q : eP) : Int := sumI (fun y => sumI (fun x => bI (fsC F x y ∧ Q x y)) 0 W) 0 H
theorem sumI_add (f g : Int → Int) (a b : Int) : sumI (fun i => f i + g i) a b = sumI f a b + sumI g a b := by
  unfold sumI
  induction (b - a).toNat with
  | zero => rfl
  | succ n ih => rw [sumN, sumN, sumN, ih]; omega
theorem sumI_at {a b j v : Int} (h1 : a ≤ j) (h2 : j < b) : sumI (fun i => if i = j then v else 0) a b = v := by
  rw [sumI_split _ h1 (show j ≤ b by omega), sumI_split _ (show j ≤ j + 1 by omega) (show j + 1 ≤ b by omega), sumI_succ _ (Int.le_refl j), sumI_self, if_pos rfl]
  rw [sumI_congr (g := fun _ => 0) (fun i g1 g2 => if_neg (by omega)), sumI_0, sumI_congr (a := j + 1) (g := fun _ => 0) (fun i g1 g2 => if_neg (by omega)), sumI_0]
  omega
theorem NQ_nxt {W H : Int} {F Q : eP} (hs : sup W H F) {x y : Int} (hm : isMn F x y) : NQ W H F Q = bI (Q x y) + NQ W H (nxt F) Q := by
  have hb := hs x y hm.1
  unfold NQ
  have e : ∀ b, sumI (fun a => bI (fsC F a b ∧ Q a b)) 0 W = (if b = y then bI (Q x y) else 0) + sumI (fun a => bI (fsC (nxt F) a b ∧ Q a b)) 0 W := by
    intro b
    by_cases hy : b = y
    · rw [if_pos hy, ← sumI_at (a := 0) (b := W) (j := x) (v := bI (Q x y)) hb.1 hb.2.1, ← sumI_add]
      refine sumI_congr (fun a _ _ => ?_)
      by_cases hx : a = x
      · rw [if_pos hx, hx, hy, bI_0 (P := fsC (nxt F) x y ∧ Q x y) (fun z => z.1.1.2 ⟨x, y, hm, cn_rf⟩), Int.add_zero]
        exact bI_congr ⟨fun z => z.2, fun z => ⟨fsC_mn hm, z⟩⟩
      · rw [if_neg hx, Int.zero_add]
        exact bI_congr ⟨fun z => ⟨(fsC_nxt hm (fun q => hx q.1)).mpr z.1, z.2⟩, fun z => ⟨(fsC_nxt hm (fun q => hx q.1)).mp z.1, z.2⟩⟩
    · rw [if_neg hy, Int.zero_add]
      refine sumI_congr (fun a _ _ => ?_)
      exact bI_congr ⟨fun z => ⟨(fsC_nxt hm (fun q => hy q.2)).mpr z.1, z.2⟩, fun z => ⟨(fsC_nxt hm (fun q => hy q.2)).mp z.1, z.2⟩⟩
  rw [sumI_congr (fun b _ _ => e b), sumI_add, sumI_at hb.2.2.1 hb.2.2.2]
/-- of the first cell of what is left -/
def mnQ (F Q : eP) : Prop := ∃ x y, isMn F x y ∧ Q x y
theorem NQ_itr {W H : Int} {F Q : eP} (hs : sup W H F) {n : Nat} (hn : isNp F n) : ∀ k : Nat, k ≤ n → NQ W H F Q = sumI (fun i => bI (mnQ (itr F i.toNat) Q)) 0 k + NQ W H (itr F k) Q := by
  intro k
  induction k with
  | zero => intro _; rw [show ((0 : Nat) : Int) = 0 from rfl, sumI_self, Int.zero_add]; rfl
  | succ k ih =>
    intro hk
    obtain ⟨a, b, q⟩ := hn.1 k (by omega)
    obtain ⟨x, y, hm⟩ := isMn_ex (sup_itr hs k) q
    rw [ih (by omega), NQ_nxt (sup_itr hs k) hm, show ((k + 1 : Nat) : Int) = (k : Int) + 1 by omega, sumI_succ _ (by omega)]
    show _ + (_ + NQ W H (itr F (k + 1)) Q) = _
    have : bI (mnQ (itr F ((k : Int)).toNat) Q) = bI (Q x y) := by
      rw [Int.toNat_natCast]
      refine bI_congr ⟨fun z => ?_, fun z => ⟨x, y, hm, z⟩⟩
      obtain ⟨u, v, m, z⟩ := z
      obtain ⟨rfl, rfl⟩ := isMn_one hm m
      exact z
    rw [this]
    omega
theorem NQ_none {W H : Int} {F Q : eP} (h : ∀ x y, ¬ F x y) : NQ W H F Q = 0 := by
  unfold NQ
  exact sumI_z (fun y _ _ => sumI_z (fun x _ _ => bI_0 (fun z => h x y z.1.1)))
theorem NQ_np {W H : Int} {F Q : eP} (hs : sup W H F) {n : Nat} (hn : isNp F n) : NQ W H F Q = sumI (fun i => bI (mnQ (itr F i.toNat) Q)) 0 n := by
  rw [NQ_itr hs hn n (Nat.le_refl _), NQ_none hn.2]
  omega
theorem NQ_all {W H : Int} {F : eP} (hs : sup W H F) {n : Nat} (hn : isNp F n) : NQ W H F (fun _ _ => True) = n := by
  rw [NQ_np hs hn, sumI_congr (g := fun _ => 1) (fun i h1 h2 => ?_), sumI_one _ (by omega)]
  obtain ⟨a, b, q⟩ := hn.1 i.toNat (by omega)
  obtain ⟨x, y, hm⟩ := isMn_ex (sup_itr hs _) q
  exact bI_1 ⟨x, y, hm, trivial⟩
/-- F within C, where C has whole pieces of F -/
theorem fsC_clo {F C : eP} (hc : ∀ a b c d, F a b → F c d → adj a b c d → C a b → C c d) {x y : Int} : fsC (fun a b => F a b ∧ C a b) x y ↔ fsC F x y ∧ C x y := by
  constructor
  · intro h
    refine ⟨⟨h.1.1, fun a b q => h.2 a b ?_⟩, h.1.2⟩
    refine (q (fun a b => (F a b ∧ C a b) ∧ cn (fun a b => F a b ∧ C a b) x y a b) ⟨h.1, cn_rf⟩ (fun a b c d z hF ha => ?_)).2
    have : F c d ∧ C c d := ⟨hF, hc _ _ _ _ z.1.1 hF ha z.1.2⟩
    exact ⟨this, cn_st z.2 this ha⟩
  · intro h
    exact ⟨⟨h.1.1, h.2⟩, fun a b q => h.1.2 a b (cn_mono (fun _ _ z => z.1) q)⟩
theorem NQ_clo {W H : Int} {F C : eP} (hc : ∀ a b c d, F a b → F c d → adj a b c d → C a b → C c d) : NQ W H (fun a b => F a b ∧ C a b) (fun _ _ => True) = NQ W H F C := by
  unfold NQ
  refine sumI_congr (fun y _ _ => sumI_congr (fun x _ _ => bI_congr ?_))
  rw [fsC_clo hc]
  exact ⟨fun z => z.1, fun z => ⟨z, trivial⟩⟩
