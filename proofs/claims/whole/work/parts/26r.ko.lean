section
/-! reading, the reference: conditions -/
variable {xs : Nat → Int32} {xl : Nat} {I J : w_I} {b : Bool} {Q : Option Value → w_I → w_I → Bool → Prop}
variable {K V P M : Int → Int} {N : Int}
def pzV (a : Nat) (k : Int) : Bool := (a == 114 && k == 1) || (a == 115 && decide (200 ≤ k ∧ k < 400)) || pzY a k
/-- nots are 0 or 1 -/
def zB1 (I : w_I) : Prop := ∀ k, 0 ≤ k → k < 800 → I 115 k = 0 ∨ I 115 k = 1
def zFr (I I' : w_I) : Prop := w_fr pzV I I' ∧ (zB1 I → zB1 I')
def zF (I I' : w_I) (st p : Int) : Prop := zFr I I' ∧ I' 104 8 = st ∧ I' 104 9 = p
theorem zB1_e {I I' : w_I} (h : I' 115 = I 115) (x : zB1 I) : zB1 I' := by
  unfold zB1
  rw [h]
  exact x
theorem zfr {I : w_I} : zFr I I := ⟨w_frr, fun x => x⟩
theorem zft {I I1 I2 : w_I} (f : zFr I I1) (g : zFr I1 I2) : zFr I I2 := ⟨w_frt f.1 g.1, fun x => g.2 (f.2 x)⟩
theorem zfU {I I1 : w_I} {a : Nat} {k v : Int} (f : zFr I I1) (hp : pzV a k = true) (ha : a ≠ 115 := by decide) : zFr I (w_U I1 a k v) := ⟨w_frU f.1 hp, fun x => zB1_e (w_Ua (fun e => ha e.symm)) (f.2 x)⟩
theorem pzY_V {I I' : w_I} (f : w_fr pzY I I') : w_fr pzV I I' := w_frm f (fun a k e => (Bool.or_eq_false_iff.mp e).2)
theorem pzY_r {I I' : w_I} (f : w_fr pzY I I') : zFr I I' := ⟨pzY_V f, zB1_e (w_frA f (fun _ => rfl))⟩
theorem zF_e {I1 I' : w_I} {st p : Int} (h : zE I1 I' st p) (f : zFr I I1) : zF I I' st p := ⟨zft f (pzY_r h.1), h.2⟩
theorem zF_f {I1 I' : w_I} {st p : Int} (h : zF I1 I' st p) (f : zFr I I1) : zF I I' st p := ⟨zft f h.1, h.2⟩
theorem p28_Yb {c : Int} (hc : 0 ≤ c) {a : Nat} {k : Int} (e : pzY a k = false) : p28 c a k = false := by
  have h1 : w_fr (p28 c) (fun _ _ => 0) (fun a k => if p28 c a k then 1 else 0) := fun a k e => by
    try dsimp only
    rw [e]
    rfl
  have h2 := p28_Y hc h1 a k e
  cases h : p28 c a k
  · rfl
  · try dsimp only at h2
    rw [h] at h2
    cases h2
theorem p28_mb {c c' : Int} (hc : c ≤ c') {a : Nat} {k : Int} (e : p28 c a k = false) : p28 c' a k = false := by
  unfold p28 pzW at e ⊢
  simp only [Bool.or_eq_false_iff, Bool.and_eq_false_iff, decide_eq_false_iff_not, beq_eq_false_iff_ne, ne_eq] at e ⊢
  obtain ⟨e1, ⟨⟨e2, e3⟩, e4⟩, e5⟩ := e
  refine ⟨e1, ⟨⟨e2, e3⟩, e4⟩, ?_⟩
  rcases e5 with x | x
  · exact Or.inl x
  · exact Or.inr (by omega)
def p88 (c q : Int) (a : Nat) (k : Int) : Bool := (a == 104 && k == 29) || (a == 114 && k == 1) || (Nat.ble 115 a && Nat.ble a 120 && decide (200 + q ≤ k ∧ k < 400)) || p28 c a k
theorem p88_l {c q k : Int} {a : Nat} (ha : 115 ≤ a ∧ a ≤ 120) (hk : 200 + q ≤ k ∧ k < 400) : p88 c q a k = true := by
  unfold p88
  rw [Nat.ble_eq_true_of_le ha.1, Nat.ble_eq_true_of_le ha.2, decide_eq_true hk]
  simp
theorem p28_88 {c c' q : Int} (hc : c ≤ c') {I I' : w_I} (f : w_fr (p28 c') I I') : w_fr (p88 c q) I I' := w_frm f (fun a k e => p28_mb hc (Bool.or_eq_false_iff.mp e).2)
theorem p88_m {c c' q q' : Int} (hc : c ≤ c') (hq : q ≤ q') {I I' : w_I} (f : w_fr (p88 c' q') I I') : w_fr (p88 c q) I I' := w_frm f (fun a k e => by
  unfold p88 at e ⊢
  simp only [Bool.or_eq_false_iff, Bool.and_eq_false_iff, decide_eq_false_iff_not, beq_eq_false_iff_ne, ne_eq] at e ⊢
  obtain ⟨⟨⟨e1, e2⟩, e3⟩, e4⟩ := e
  refine ⟨⟨⟨e1, e2⟩, ?_⟩, p28_mb hc e4⟩
  rcases e3 with x | x
  · exact Or.inl x
  · exact Or.inr (by omega))
theorem p88_V {c q : Int} (hc : 0 ≤ c) (hq : 0 ≤ q) {I I' : w_I} (f : w_fr (p88 c q) I I') : w_fr pzV I I' := w_frm f (fun a k e => by
  unfold pzV at e
  obtain ⟨e0, e⟩ := Bool.or_eq_false_iff.mp e
  obtain ⟨e0, e00⟩ := Bool.or_eq_false_iff.mp e0
  have e7 := p28_Yb hc e
  unfold pzY at e
  unfold p88
  simp only [Bool.or_eq_false_iff, Bool.and_eq_false_iff, decide_eq_false_iff_not, beq_eq_false_iff_ne, ne_eq] at e e0 e00 ⊢
  obtain ⟨⟨⟨⟨⟨e1, e2⟩, e3⟩, e4⟩, e5⟩, e6⟩ := e
  refine ⟨⟨⟨?_, e0⟩, ?_⟩, e7⟩
  · rcases e1 with x | x
    · exact Or.inl x
    · exact Or.inr (by omega)
  · by_cases cr : 200 ≤ k ∧ k < 400
    · rcases e00 with y | y
      · rcases e6 with x | x
        · rcases x with x | x
          · refine Or.inl (Or.inl ?_)
            cases z : Nat.ble 115 a
            · rfl
            · have := Nat.le_of_ble_eq_true z
              rw [Nat.ble_eq_true_of_le (show 116 ≤ a by omega)] at x
              cases x
          · exact Or.inl (Or.inr x)
        · exact absurd cr x
      · exact absurd cr y
    · exact Or.inr (by omega))
def p87 (c q : Int) (a : Nat) (k : Int) : Bool := (a == 104 && k == 29) || (a == 114 && k == 1) || (Nat.ble 116 a && Nat.ble a 120 && decide (200 + q ≤ k ∧ k < 400)) || p28 c a k
theorem p87_l {c q k : Int} {a : Nat} (ha : 116 ≤ a ∧ a ≤ 120) (hk : 200 + q ≤ k ∧ k < 400) : p87 c q a k = true := by
  unfold p87
  rw [Nat.ble_eq_true_of_le ha.1, Nat.ble_eq_true_of_le ha.2, decide_eq_true hk]
  simp
theorem p28_87 {c c' q : Int} (hc : c ≤ c') {I I' : w_I} (f : w_fr (p28 c') I I') : w_fr (p87 c q) I I' := w_frm f (fun a k e => p28_mb hc (Bool.or_eq_false_iff.mp e).2)
theorem p87_88 {c q : Int} {I I' : w_I} (f : w_fr (p87 c q) I I') : w_fr (p88 c q) I I' := w_frm f (fun a k e => by
  unfold p88 at e
  unfold p87
  simp only [Bool.or_eq_false_iff, Bool.and_eq_false_iff, decide_eq_false_iff_not, beq_eq_false_iff_ne, ne_eq] at e ⊢
  obtain ⟨⟨⟨e1, e2⟩, e3⟩, e4⟩ := e
  refine ⟨⟨⟨e1, e2⟩, ?_⟩, e4⟩
  rcases e3 with x | x
  · rcases x with x | x
    · refine Or.inl (Or.inl ?_)
      cases z : Nat.ble 116 a
      · rfl
      · have := Nat.le_of_ble_eq_true z
        rw [Nat.ble_eq_true_of_le (show 115 ≤ a by omega)] at x
        cases x
    · exact Or.inl (Or.inr x)
  · exact Or.inr x)
theorem p87_5 {c q : Int} {I I' : w_I} (f : w_fr (p87 c q) I I') : I' 115 = I 115 := w_frA f (fun _ => rfl)
theorem p87_r {c q : Int} (hc : 0 ≤ c) (hq : 0 ≤ q) {I I' : w_I} (f : w_fr (p87 c q) I I') : zFr I I' := ⟨p88_V hc hq (p87_88 f), zB1_e (p87_5 f)⟩
def z88 (c q : Int) (I I' : w_I) : Prop := w_fr (p88 c q) I I' ∧ (zB1 I → zB1 I')
theorem z88_V {c q : Int} (hc : 0 ≤ c) (hq : 0 ≤ q) {I I' : w_I} (f : z88 c q I I') : zFr I I' := ⟨p88_V hc hq f.1, f.2⟩
theorem p28_a {c : Int} {I I' : w_I} (f : w_fr (p28 c) I I') {a : Nat} (h1 : a ≠ 104) (h2 : a ≠ 123) (h3 : a ≠ 111) (h4 : a ≠ 112) (h5 : a ≠ 113) : I' a = I a := w_frA f (fun k => by unfold p28 pzW; simp [h1, h2, h3, h4, h5])
theorem p28_4 {c k : Int} {I I' : w_I} (f : w_fr (p28 c) I I') (h1 : k ≠ 7) (h2 : k ≠ 26) (h3 : k ≠ 28) : I' 104 k = I 104 k := f 104 k (by unfold p28 pzW; simp [h1, h2, h3])
theorem p28_c {c k : Int} {I I' : w_I} (f : w_fr (p28 c) I I') (h : k < 500 + c) : I' 112 k = I 112 k ∧ I' 113 k = I 113 k := ⟨f 112 k (by unfold p28 pzW; simp; omega), f 113 k (by unfold p28 pzW; simp; omega)⟩
theorem p88_a {c q : Int} {I I' : w_I} (f : w_fr (p88 c q) I I') {a : Nat} (h1 : a ≠ 104) (h2 : a ≠ 123) (h3 : a ≠ 111) (h4 : a ≠ 112) (h5 : a ≠ 113) (h6 : a ≠ 114) (h7 : a < 115) : I' a = I a := w_frA f (fun k => by
  have : Nat.ble 115 a = false := by
    cases h : Nat.ble 115 a
    · rfl
    · have := Nat.le_of_ble_eq_true h
      omega
  unfold p88 p28 pzW
  simp [h1, h2, h3, h4, h5, h6, this])
theorem p88_c {c q k : Int} {I I' : w_I} (f : w_fr (p88 c q) I I') (h : k < 500 + c) : I' 112 k = I 112 k ∧ I' 113 k = I 113 k := ⟨f 112 k (by unfold p88 p28 pzW; simp; omega), f 113 k (by unfold p88 p28 pzW; simp; omega)⟩
theorem p88_q {c q k : Int} {I I' : w_I} (f : w_fr (p88 c q) I I') (h : k < 200 + q) {a : Nat} (ha : 115 ≤ a ∧ a ≤ 120) : I' a k = I a k := f a k (by
  have h1 : a ≠ 104 := by omega
  have h2 : a ≠ 123 := by omega
  have h3 : a ≠ 111 := by omega
  have h4 : a ≠ 112 := by omega
  have h5 : a ≠ 113 := by omega
  have h6 : a ≠ 114 := by omega
  have h7 : ¬ (200 + q ≤ k ∧ k < 400) := by omega
  unfold p88 p28 pzW
  rw [decide_eq_false h7]
  simp [h1, h2, h3, h4, h5, h6])
theorem p88_4 {c q k : Int} {I I' : w_I} (f : w_fr (p88 c q) I I') (h1 : k ≠ 7) (h2 : k ≠ 26) (h3 : k ≠ 28) (h4 : k ≠ 29) : I' 104 k = I 104 k := f 104 k (by
  have : Nat.ble 115 104 = false := rfl
  unfold p88 p28 pzW
  simp [h1, h2, h3, h4, this])
theorem z_ro_c {op va op' va' : Int → Int} {k : Int} {C : List Int} (h : ∀ j, k ≤ j → j < k + C.length → op' j = op j ∧ va' j = va j) (hz : z_ro op va k C) : z_ro op' va' k C := by
  refine ⟨z_at_c _ _ (fun j x y => ?_) hz.1, z_at_c _ _ (fun j x y => ?_) hz.2⟩
  · rw [List.length_map] at y
    exact (h j x y).1
  · rw [List.length_map] at y
    exact (h j x y).2
/-- a literal's cells -/
def zLi (I : w_I) (k o : Int) (l : z_L) : Prop := (I 115 (200 + k) = l.2.1 ∧ I 116 (200 + k) = zW l.2.2.1 ∧ I 120 (200 + k) = o) ∧ (0 ≤ I 117 (200 + k) ∧ I 118 (200 + k) = I 117 (200 + k) + l.2.2.2.1.length ∧ I 119 (200 + k) = I 118 (200 + k) + l.2.2.2.2.length ∧ I 119 (200 + k) ≤ I 111 1) ∧ z_ro (I 112) (I 113) (500 + I 117 (200 + k)) l.2.2.2.1 ∧ z_ro (I 112) (I 113) (500 + I 118 (200 + k)) l.2.2.2.2
theorem zLi_o {I' : w_I} {c k o : Int} {l : z_L} (hz : zLi I k o l) (h111 : I 111 1 = c) (c1 : c ≤ I' 111 1) (fc : ∀ j, j < 500 + c → I' 112 j = I 112 j ∧ I' 113 j = I 113 j) (fl : ∀ a : Nat, 115 ≤ a → a ≤ 120 → I' a (200 + k) = I a (200 + k)) : zLi I' k o l := by
  obtain ⟨a, ⟨b1, b2, b3, b4⟩, d, e⟩ := hz
  unfold zLi
  rw [fl 115 (by decide) (by decide), fl 116 (by decide) (by decide), fl 117 (by decide) (by decide), fl 118 (by decide) (by decide), fl 119 (by decide) (by decide), fl 120 (by decide) (by decide)]
  exact ⟨a, ⟨b1, b2, b3, by omega⟩, z_ro_c (fun j x y => fc j (by omega)) d, z_ro_c (fun j x y => fc j (by omega)) e⟩
def zLs (I : w_I) : Int → Int → List z_L → Prop
  | _, _, [] => True
  | k, o, l :: r => zLi I k o l ∧ zLs I (k + 1) (if z_ha r = 1 then o else o + 1) r
theorem z_lenL (x : z_L) (r : List z_L) : (((x :: r).length : Nat) : Int) = r.length + 1 := by simp
theorem zLs_o {I I' : w_I} {c q : Int} (h111 : I 111 1 = c) (c1 : c ≤ I' 111 1) (fc : ∀ j, j < 500 + c → I' 112 j = I 112 j ∧ I' 113 j = I 113 j) (fl : ∀ (a : Nat) (j : Int), 115 ≤ a → a ≤ 120 → j < 200 + q → I' a j = I a j) : ∀ (L : List z_L) (k o : Int), k + L.length ≤ q → zLs I k o L → zLs I' k o L
  | [], _, _, _, _ => trivial
  | l :: r, k, o, h, hz => by
    have hl := z_lenL l r
    exact ⟨zLi_o hz.1 h111 c1 fc (fun a x y => fl a _ x y (by omega)), zLs_o h111 c1 fc fl r (k + 1) _ (by omega) hz.2⟩
theorem t188 (hN : zN K V P N) (hT : zU I J K V P M N) {h c q aft o : Int} (h9 : I 104 7 = h) (hh : 0 ≤ h ∧ h ≤ N) (h111 : I 111 1 = c) (hc : 0 ≤ c ∧ c ≤ h) (h114 : I 114 1 = q) (hq : 0 ≤ q ∧ 3 * q ≤ h) (ho : 0 ≤ o ∧ o ≤ h) (ha : aft = 0 ∨ aft = 1) {u2 u5 : Option Value} {R : Int × Int × z_L} (hR : z_li K V h aft = R)
    (k1 : R.1 = 0 → ∀ (I' : w_I) (u2 u3 u4 u5 : Option Value), z88 c q I I' → I' 104 7 = R.2.1 → I' 104 29 = I 104 29 → I' 114 1 = q + 1 → (c ≤ I' 111 1 ∧ I' 111 1 ≤ R.2.1) → zLi I' q o R.2.2 → w_C xs xl 179 [.ref 104, w_i 11] I' J b (fun v Ic Jc bc => w_T xs xl 188 227 [some (.ref 104), some (w_i o), u2, u3, u4, u5] [] (w_pv v []) Ic Jc bc Q))
    (k0 : R.1 ≠ 0 → ∀ I', zF I I' R.1 (P R.2.1) → Q (some (w_i 0)) I' J b) : w_T xs xl 188 32 [some (.ref 104), some (w_i o), u2, some (w_i (200 + q)), some (w_i 0), u5] [] [] I J b Q := by
  have hNN := hN.1.2
  have nok := z_no_ok hN (401 - h).toNat h 0 hh.1 hh.2 (Or.inl rfl)
  unfold z_li at hR
  generalize hA : z_no K (401 - h).toNat h 0 = A at hR nok
  obtain ⟨n1, n2, n3, n4⟩ := nok
  have bad : ∀ (z p : Int) (l : z_L), z ≠ 0 → ((z, p, l) : Int × Int × z_L) = R → ∀ I', zF I I' z (P p) → Q (some (w_i 0)) I' J b := by
    intro z p l hz e I' f
    rw [← e] at k0
    exact k0 hz I' f
  have fr9 : ∀ h' : Int, w_fr (p87 c q) I (w_U I 104 7 h') := fun h' => w_frU w_frr (by unfold p87 p28 pzW; simp)
  have toV : ∀ {I2 : w_I}, w_fr (p87 c q) I I2 → zFr I I2 := fun f => p87_r hc.1 hq.1 f
  have tU : ∀ {I2 : w_I}, w_fr (p87 c q) I I2 → zU I2 J K V P M N := fun f => zU_f hT (p88_a (p87_88 f) (by decide) (by decide) (by decide) (by decide) (by decide) (by decide) (by decide)) (p88_a (p87_88 f) (by decide) (by decide) (by decide) (by decide) (by decide) (by decide) (by decide)) (p88_a (p87_88 f) (by decide) (by decide) (by decide) (by decide) (by decide) (by decide) (by decide))
  have rest : A.1 = 0 → ∀ (u2 u5 : Option Value), w_C xs xl 187 [.ref 104] (w_U I 104 7 A.2.1) J b (fun v Ic Jc bc => w_T xs xl 188 69 [some (.ref 104), some (w_i o), u2, some (w_i (200 + q)), some (w_i A.2.2), u5] [] (w_pv v []) Ic Jc bc Q) := by
    intro a0 u2 u5
    obtain ⟨n5, n6⟩ := n1 a0
    rw [if_neg (fun x => x a0)] at hR
    have hx := z_ex_k (V := V) hN (h := A.2.1) (by omega)
    refine s187 hN (tU (fr9 _)) (h := A.2.1) (c := c) (by simp [w_Ug]) (by omega) (by rw [w_Ua (by decide)]; exact h111) (by omega) ?_ ?_
    all_goals generalize z_ex K V (401 - A.2.1).toNat A.2.1 1 0 [] [] = E at hR hx
    all_goals unfold z_lj at hR
    all_goals obtain ⟨x1, x2, x3, x4⟩ := hx
    · intro e0 I2 f2 e7 e28 e111 ero
      obtain ⟨y1, y2, y3⟩ := x1 e0
      rw [if_neg (fun x => x e0)] at hR
      have g2 := w_frt (fr9 A.2.1) (p28_87 (q := q) (Int.le_refl c) f2)
      -- the two cells
      have g3 : w_fr (p87 c q) I (w_U (w_U I2 117 (200 + q) c) 118 (200 + q) (c + E.2.2.length)) := w_frU (w_frU g2 (p87_l (by decide) (by omega))) (p87_l (by decide) (by omega))
      have s29 : (w_U (w_U I2 117 (200 + q) c) 118 (200 + q) (c + E.2.2.length)) 104 29 = I 104 29 := by
        rw [w_Ua (by decide), w_Ua (by decide), p28_4 f2 (by decide) (by decide) (by decide), w_Ug, if_pos rfl, if_neg (by decide)]
      have s7 : (w_U (w_U I2 117 (200 + q) c) 118 (200 + q) (c + E.2.2.length)) 104 7 = E.2.1 := by rw [w_Ua (by decide), w_Ua (by decide)]; exact e7
      have s111 : (w_U (w_U I2 117 (200 + q) c) 118 (200 + q) (c + E.2.2.length)) 111 1 = c + E.2.2.length := by rw [w_Ua (by decide), w_Ua (by decide)]; exact e111
      have s117 : (w_U (w_U I2 117 (200 + q) c) 118 (200 + q) (c + E.2.2.length)) 117 (200 + q) = c := by rw [w_Ua (by decide), w_Ug, if_pos rfl, if_pos rfl]
      have s118 : (w_U (w_U I2 117 (200 + q) c) 118 (200 + q) (c + E.2.2.length)) 118 (200 + q) = c + E.2.2.length := by rw [w_Ug, if_pos rfl, if_pos rfl]
      have sro : z_ro ((w_U (w_U I2 117 (200 + q) c) 118 (200 + q) (c + E.2.2.length)) 112) ((w_U (w_U I2 117 (200 + q) c) 118 (200 + q) (c + E.2.2.length)) 113) (500 + c) E.2.2 := by
        rw [w_Ua (by decide), w_Ua (by decide), w_Ua (by decide), w_Ua (by decide)]
        exact ero
      have s114 : (w_U (w_U I2 117 (200 + q) c) 118 (200 + q) (c + E.2.2.length)) 114 1 = q := by
        rw [w_Ua (by decide), w_Ua (by decide), p28_a f2 (by decide) (by decide) (by decide) (by decide) (by decide), w_Ua (by decide)]
        exact h114
      refine b188_69 ?_
      try simp only [w_Ug, reduceIte, Nat.reduceEqDiff, Int.reduceEq, eq_self, e28, e111]
      repeat' (first | apply And.intro | intro)
      all_goals (try first | omega | contradiction | exact Or.inl trivial | exact Or.inr trivial)
      generalize (w_U (w_U I2 117 (200 + q) c) 118 (200 + q) (c + E.2.2.length)) = I3 at g3 s29 s7 s111 s117 s118 sro s114
      have hT3 := tU g3
      have kb := hN.2.2.2.1 E.2.1 x3 x2
      have kbk := kb.1
      obtain ⟨t1, t2, t3, t4, t5⟩ := hT3 E.2.1 x3 x2
      have cmp : (10 ≤ K E.2.1 ∧ K E.2.1 ≤ 13) → w_C xs xl 177 [.ref 104] (w_U I3 116 (200 + q) (zW (K E.2.1))) J b (fun v Ic Jc bc => w_T xs xl 188 172 [some (.ref 104), some (w_i o), u2, some (w_i (200 + q)), some (w_i A.2.2), some (w_i 1)] [] (w_pv v []) Ic Jc bc Q) := by
        intro c3
        rw [if_neg (fun x => x c3)] at hR
        have g4 : w_fr (p87 c q) I (w_U I3 116 (200 + q) (zW (K E.2.1))) := w_frU g3 (p87_l (by decide) (by omega))
        refine s177 (tU g4) hNN (h := E.2.1) (by rw [w_Ua (by decide)]; exact s7) ⟨x3, x2⟩ (fun cc => ?_) (fun cc I' g => ?_)
        · rw [if_neg (by omega)] at hR
          have nx := zN_x hN ⟨x3, x2⟩ (by omega) (by omega)
          have hx := z_ex_k (V := V) hN (h := E.2.1 + 1) (by omega)
          have g5 : w_fr (p87 c q) I (w_U (w_U I3 116 (200 + q) (zW (K E.2.1))) 104 7 (E.2.1 + 1)) := w_frU g4 (by unfold p87 p28 pzW; simp)
          have r29 : (w_U (w_U I3 116 (200 + q) (zW (K E.2.1))) 104 7 (E.2.1 + 1)) 104 29 = I 104 29 := by rw [w_Ug, if_pos rfl, if_neg (by decide), w_Ua (by decide)]; exact s29
          have r7 : (w_U (w_U I3 116 (200 + q) (zW (K E.2.1))) 104 7 (E.2.1 + 1)) 104 7 = E.2.1 + 1 := by rw [w_Ug, if_pos rfl, if_pos rfl]
          have r111 : (w_U (w_U I3 116 (200 + q) (zW (K E.2.1))) 104 7 (E.2.1 + 1)) 111 1 = c + E.2.2.length := by rw [w_Ua (by decide), w_Ua (by decide)]; exact s111
          have r114 : (w_U (w_U I3 116 (200 + q) (zW (K E.2.1))) 104 7 (E.2.1 + 1)) 114 1 = q := by rw [w_Ua (by decide), w_Ua (by decide)]; exact s114
          have r117 : (w_U (w_U I3 116 (200 + q) (zW (K E.2.1))) 104 7 (E.2.1 + 1)) 117 (200 + q) = c := by rw [w_Ua (by decide), w_Ua (by decide)]; exact s117
          have r118 : (w_U (w_U I3 116 (200 + q) (zW (K E.2.1))) 104 7 (E.2.1 + 1)) 118 (200 + q) = c + E.2.2.length := by rw [w_Ua (by decide), w_Ua (by decide)]; exact s118
          have r116 : (w_U (w_U I3 116 (200 + q) (zW (K E.2.1))) 104 7 (E.2.1 + 1)) 116 (200 + q) = zW (K E.2.1) := by rw [w_Ua (by decide), w_Ug, if_pos rfl, if_pos rfl]
          have rro : z_ro ((w_U (w_U I3 116 (200 + q) (zW (K E.2.1))) 104 7 (E.2.1 + 1)) 112) ((w_U (w_U I3 116 (200 + q) (zW (K E.2.1))) 104 7 (E.2.1 + 1)) 113) (500 + c) E.2.2 := by
            rw [w_Ua (by decide), w_Ua (by decide), w_Ua (by decide), w_Ua (by decide)]
            exact sro
          generalize (w_U (w_U I3 116 (200 + q) (zW (K E.2.1))) 104 7 (E.2.1 + 1)) = I5 at g5 r29 r7 r111 r114 r117 r118 r116 rro
          refine b188_172 ?_
          try simp only [w_Ug, reduceIte, Nat.reduceEqDiff, Int.reduceEq, eq_self, if_true]
          repeat' (first | apply And.intro | intro)
          all_goals (try first | omega | contradiction | exact Or.inl trivial | exact Or.inr trivial)
          refine s187 hN (tU g5) (h := E.2.1 + 1) (c := c + E.2.2.length) r7 (by omega) r111 (by omega) ?_ ?_
          all_goals generalize z_ex K V (401 - (E.2.1 + 1)).toNat (E.2.1 + 1) 1 0 [] [] = D at hR hx
          all_goals obtain ⟨w1, w2, w3, w4⟩ := hx
          · intro d0 I6 f6 d7 d28 d111 dro
            obtain ⟨v1, v2, v3⟩ := w1 d0
            rw [if_neg (fun x => x d0)] at hR
            rw [← hR] at k1
            have d114 : I6 114 1 = q := by rw [p28_a f6 (by decide) (by decide) (by decide) (by decide) (by decide)]; exact r114
            have g6 := w_frt g5 (p28_87 (c := c) (q := q) (by omega) f6)
            have g7 : z88 c q I (w_U (w_U (w_U (w_U I6 119 (200 + q) (c + E.2.2.length + D.2.2.length)) 115 (200 + q) A.2.2) 120 (200 + q) o) 114 1 (q + 1)) := ⟨w_frU (w_frU (w_frU (w_frU (p87_88 g6) (p88_l (by decide) (by omega))) (p88_l (by decide) (by omega))) (p88_l (by decide) (by omega))) (by unfold p88; simp), fun x y p z => by
              rw [w_Ua (by decide), w_Ua (by decide), w_Ug, if_pos rfl]
              split
              · exact n5
              · rw [w_Ua (by decide), p87_5 g6]
                exact x y p z⟩
            have zl : zLi (w_U (w_U (w_U (w_U I6 119 (200 + q) (c + E.2.2.length + D.2.2.length)) 115 (200 + q) A.2.2) 120 (200 + q) o) 114 1 (q + 1)) q o (aft, A.2.2, K E.2.1, E.2.2, D.2.2) := by
              have o116 : I6 116 (200 + q) = zW (K E.2.1) := by rw [p28_a f6 (by decide) (by decide) (by decide) (by decide) (by decide)]; exact r116
              have o117 : I6 117 (200 + q) = c := by rw [p28_a f6 (by decide) (by decide) (by decide) (by decide) (by decide)]; exact r117
              have o118 : I6 118 (200 + q) = c + E.2.2.length := by rw [p28_a f6 (by decide) (by decide) (by decide) (by decide) (by decide)]; exact r118
              unfold zLi
              simp only [w_Ug, reduceIte, Nat.reduceEqDiff, o116, o117, o118, d111]
              rw [w_Ua (show (112 : Nat) ≠ 114 by decide), w_Ua (show (112 : Nat) ≠ 120 by decide), w_Ua (show (112 : Nat) ≠ 115 by decide), w_Ua (show (112 : Nat) ≠ 119 by decide)]
              rw [w_Ua (show (113 : Nat) ≠ 114 by decide), w_Ua (show (113 : Nat) ≠ 120 by decide), w_Ua (show (113 : Nat) ≠ 115 by decide), w_Ua (show (113 : Nat) ≠ 119 by decide)]
              refine ⟨⟨trivial, trivial, trivial⟩, ⟨hc.1, trivial, trivial, Int.le_refl _⟩, z_ro_c (fun j x y => ?_) rro, dro⟩
              exact p28_c (c := c + E.2.2.length) (k := j) f6 (by omega)
            have kk := fun u2 u3 u4 u5 => k1 rfl _ u2 u3 u4 u5 g7 (by rw [w_Ua (by decide), w_Ua (by decide), w_Ua (by decide), w_Ua (by decide)]; exact d7) (by rw [w_Ua (by decide), w_Ua (by decide), w_Ua (by decide), w_Ua (by decide), p28_4 f6 (by decide) (by decide) (by decide)]; exact r29) (by rw [w_Ug, if_pos rfl, if_pos rfl]) (by rw [w_Ua (by decide), w_Ua (by decide), w_Ua (by decide), w_Ua (by decide), d111]; dsimp only; omega) zl
            refine b188_179 ?_
            try simp only [w_Ug, reduceIte, Nat.reduceEqDiff, Int.reduceEq, eq_self, d111, d114]
            repeat' (first | apply And.intro | intro)
            all_goals (try first | omega | contradiction | exact Or.inl trivial | exact Or.inr trivial)
            exact kk _ _ _ _
          · intro d0 I' g
            rw [if_pos d0] at hR
            have kk := bad _ _ _ d0 hR I' (zF_e g (toV g5))
            refine b188_179 ?_
            try simp only [w_Ug, reduceIte, Nat.reduceEqDiff, Int.reduceEq, eq_self, if_true]
            repeat' (first | apply And.intro | intro)
            all_goals (try first | omega | contradiction | exact Or.inl trivial | exact Or.inr trivial)
        · rw [if_pos cc] at hR
          have kk := bad 2 _ _ (by decide) hR I' (zF_e g (toV g4))
          refine b188_172 ?_
          try simp only [w_Ug, reduceIte, Nat.reduceEqDiff, Int.reduceEq, eq_self, if_true]
          repeat' (first | apply And.intro | intro)
          all_goals (try first | omega | contradiction | exact Or.inl trivial | exact Or.inr trivial)
      have sg := fun (kk ch : Int) (Q' : Option Value → w_I → w_I → Bool → Prop) => s178 (xs := xs) (xl := xl) (b := b) (Q := Q') (c := ch) (kk := kk) hT3 hNN s7 ⟨x3, x2⟩ kbk
      refine sg 10 300 _ rfl (by decide) (fun ck => ?_) (fun c10 => ?_)
      · have q1 := cmp (by omega)
        have t4 := t4 (by omega)
        refine b188_103 ?_
        try simp only [w_Ug, reduceIte, Nat.reduceEqDiff, Int.reduceEq, eq_self, s7, t4]
        repeat' (first | apply And.intro | intro)
        all_goals (try first | omega | contradiction | exact Or.inl trivial | exact Or.inr trivial)
      · refine b188_103 ?_
        try simp only [w_Ug, reduceIte, Nat.reduceEqDiff, Int.reduceEq, eq_self, s7]
        repeat' (first | apply And.intro | intro)
        all_goals (try first | omega | contradiction | exact Or.inl trivial | exact Or.inr trivial)
        refine sg 11 301 _ rfl (by decide) (fun ck => ?_) (fun c11 => ?_)
        · have q1 := cmp (by omega)
          have t4 := t4 (by omega)
          refine b188_113 ?_
          try simp only [w_Ug, reduceIte, Nat.reduceEqDiff, Int.reduceEq, eq_self, s7, t4]
          repeat' (first | apply And.intro | intro)
          all_goals (try first | omega | contradiction | exact Or.inl trivial | exact Or.inr trivial)
        · refine b188_113 ?_
          try simp only [w_Ug, reduceIte, Nat.reduceEqDiff, Int.reduceEq, eq_self, s7]
          repeat' (first | apply And.intro | intro)
          all_goals (try first | omega | contradiction | exact Or.inl trivial | exact Or.inr trivial)
          refine sg 13 302 _ rfl (by decide) (fun ck => ?_) (fun c13 => ?_)
          · have q1 := cmp (by omega)
            have t4 := t4 (by omega)
            refine b188_123 ?_
            try simp only [w_Ug, reduceIte, Nat.reduceEqDiff, Int.reduceEq, eq_self, s7, t4]
            repeat' (first | apply And.intro | intro)
            all_goals (try first | omega | contradiction | exact Or.inl trivial | exact Or.inr trivial)
          · refine b188_123 ?_
            try simp only [w_Ug, reduceIte, Nat.reduceEqDiff, Int.reduceEq, eq_self, s7]
            repeat' (first | apply And.intro | intro)
            all_goals (try first | omega | contradiction | exact Or.inl trivial | exact Or.inr trivial)
            refine sg 12 60 _ rfl (by decide) (fun ck => ?_) (fun c12 => ?_)
            · have q1 := cmp (by omega)
              have t4 := t4 (by omega)
              refine b188_132 ?_
              try simp only [w_Ug, reduceIte, Nat.reduceEqDiff, Int.reduceEq, eq_self, s7, t4]
              repeat' (first | apply And.intro | intro)
              all_goals (try first | omega | contradiction | exact Or.inl trivial | exact Or.inr trivial)
            · rw [if_pos (by omega)] at hR
              have bd := bad 1 _ _ (by decide) hR
              refine b188_132 ?_
              try simp only [w_Ug, reduceIte, Nat.reduceEqDiff, Int.reduceEq, eq_self, s7]
              repeat' (first | apply And.intro | intro)
              all_goals (try first | omega | contradiction | exact Or.inl trivial | exact Or.inr trivial)
              exact s175 hT3 hNN s7 ⟨x3, x2⟩ (fun I' f => b188_152 ⟨Or.inl rfl, bd I' (zF_e f (toV g3))⟩)
    · intro e0 I' g
      rw [if_pos e0] at hR
      have kk := bad _ _ _ e0 hR I' (zF_e g (toV (fr9 _)))
      refine b188_69 ?_
      try simp only [w_Ug, reduceIte, Nat.reduceEqDiff, Int.reduceEq, eq_self, if_true]
      repeat' (first | apply And.intro | intro)
      all_goals (try first | omega | contradiction | exact Or.inl trivial | exact Or.inr trivial)
  have loop : ∀ (n : Nat) (h' t : Int) (u2 u5 : Option Value), (n : Int) + h' = 401 → h ≤ h' → h' ≤ N → (t = 0 ∨ t = 1) → z_no K n h' t = A → w_T xs xl 188 32 [some (.ref 104), some (w_i o), u2, some (w_i (200 + q)), some (w_i t), u5] [] [] (w_U I 104 7 h') J b Q := by
    intro n
    induction n with
    | zero =>
      intro h' t u2 u5 a0 a1 a2
      omega
    | succ n ih =>
      intro h' t u2 u5 a0 a1 a2 a4 a5
      have e9 : (w_U I 104 7 h') 104 7 = h' := by simp [w_Ug]
      have hT1 := tU (fr9 h')
      have kb := hN.2.2.2.1 h' (by omega) a2
      unfold z_no at a5
      refine b188_32 (s179 hT1 hNN e9 (by omega) kb.1 kb.2.2.2 (kk := 36) rfl (by decide) (fun c1 => ?_) (fun c1 => ?_))
      · rw [if_pos c1] at a5
        refine b188_38 ?_
        try simp only [w_Ug, reduceIte, Nat.reduceEqDiff, Int.reduceEq, eq_self, if_true]
        repeat' (first | apply And.intro | intro)
        all_goals (try first | omega | contradiction | exact Or.inl trivial | exact Or.inr trivial)
        refine s177 hT1 hNN e9 (by omega) (fun cc => ?_) (fun cc I' g => ?_)
        · rw [if_neg (by omega)] at a5
          rw [w_UU]
          have nxt := fun u2 u5 => ih (h' + 1) (1 - t) u2 u5 (by omega) (by omega) (zN_x hN (by omega) (by omega) (by omega)) (by omega) a5
          rcases a4 with rfl | rfl
          · refine b188_45 ?_
            try simp only [w_Ug, reduceIte, Nat.reduceEqDiff, Int.reduceEq, eq_self, if_true]
            repeat' (first | apply And.intro | intro)
            all_goals (try first | omega | contradiction | exact Or.inl trivial | exact Or.inr trivial)
            exact nxt _ _
          · refine b188_45 ?_
            try simp only [w_Ug, reduceIte, Nat.reduceEqDiff, Int.reduceEq, eq_self, if_true]
            repeat' (first | apply And.intro | intro)
            all_goals (try first | omega | contradiction | exact Or.inl trivial | exact Or.inr trivial)
            exact nxt _ _
        · rw [if_pos cc] at a5
          have kk : Q (some (w_i 0)) I' J b := by
            rw [← a5] at hR
            exact bad 2 h' z_l0 (by decide) hR I' (zF_e g (toV (fr9 _)))
          refine b188_45 ?_
          try simp only [w_Ug, reduceIte, Nat.reduceEqDiff, Int.reduceEq, eq_self, if_true]
          repeat' (first | apply And.intro | intro)
          all_goals (try first | omega | contradiction | exact Or.inl trivial | exact Or.inr trivial)
      · rw [if_neg c1] at a5
        have rs := rest (by rw [← a5])
        have ea1 : A.2.1 = h' := by rw [← a5]
        have ea2 : A.2.2 = t := by rw [← a5]
        rw [ea1, ea2] at rs
        refine b188_38 ?_
        try simp only [w_Ug, reduceIte, Nat.reduceEqDiff, Int.reduceEq, eq_self, if_true]
        repeat' (first | apply And.intro | intro)
        all_goals (try first | omega | contradiction | exact Or.inl trivial | exact Or.inr trivial)
        all_goals exact rs _ _
  have := loop (401 - h).toNat h 0 u2 u5 (by omega) (Int.le_refl _) hh.2 (Or.inl rfl) hA
  rw [w_Us h9] at this
  exact this
theorem s188 (hN : zN K V P N) (hT : zU I J K V P M N) {h c q : Int} (h9 : I 104 7 = h) (hh : 0 ≤ h ∧ h ≤ N) (h111 : I 111 1 = c) (hc : 0 ≤ c ∧ c ≤ h) (h114 : I 114 1 = q) (hq : 0 ≤ q ∧ 3 * q ≤ h) {R : Int × Int × List z_L} (hR : z_co K V (401 - h).toNat h 0 = R)
    (k1 : R.1 = 0 → ∀ I', z88 c q I I' → I' 104 7 = R.2.1 → I' 104 29 = q → I' 114 1 = q + R.2.2.length → (c ≤ I' 111 1 ∧ I' 111 1 ≤ R.2.1) → zLs I' q 0 R.2.2 → Q (some (w_i 1)) I' J b)
    (k0 : R.1 ≠ 0 → ∀ I', zF I I' R.1 (P R.2.1) → Q (some (w_i 0)) I' J b) : w_C xs xl 188 [.ref 104] I J b Q := by
  have hNN := hN.1.2
  refine e188 (b188_0 ?_)
  have loop : ∀ (n : Nat) (h c q o aft : Int) (I1 : w_I) (u3 u4 u5 : Option Value) (R : Int × Int × List z_L), 401 ≤ (n : Int) + h → (0 ≤ h ∧ h ≤ N) → I1 104 7 = h → I1 111 1 = c → (0 ≤ c ∧ c ≤ h) → I1 114 1 = q → (0 ≤ q ∧ 3 * q ≤ h) → (0 ≤ o ∧ o ≤ h) → (aft = 0 ∨ aft = 1) → zU I1 J K V P M N → z_co K V n h aft = R →
      (R.1 = 0 → ∀ I', z88 c q I1 I' → I' 104 7 = R.2.1 → I' 104 29 = I1 104 29 → I' 114 1 = q + R.2.2.length → (c ≤ I' 111 1 ∧ I' 111 1 ≤ R.2.1) → zLs I' q o R.2.2 → Q (some (w_i 1)) I' J b) → (R.1 ≠ 0 → ∀ I', zF I1 I' R.1 (P R.2.1) → Q (some (w_i 0)) I' J b) →
      w_T xs xl 188 14 [some (.ref 104), some (w_i o), some (w_i 1), u3, u4, u5] [] [] I1 J b Q := by
    intro n
    induction n with
    | zero =>
      intro h c q o aft I1 u3 u4 u5 R a0 a1
      omega
    | succ n ih =>
      intro h c q o aft I1 u3 u4 u5 R a0 a1 a2 a3 a4 a5 a6 a7 a8 hT a9 k1 k0
      unfold z_co at a9
      have hl := z_li_ok (V := V) hN a1 a8
      refine b188_14 ?_
      try simp only [w_Ug, reduceIte, Nat.reduceEqDiff, Int.reduceEq, eq_self, a5]
      repeat' (first | apply And.intro | intro)
      all_goals (try first | omega | contradiction | exact Or.inl trivial | exact Or.inr trivial)
      refine t188 hN hT a2 a1 a3 a4 a5 a6 a7 a8 rfl ?_ ?_
      all_goals generalize z_li K V h aft = B at a9 hl
      all_goals obtain ⟨l1, l2, l3, l4⟩ := hl
      · intro b0 I2 v2 v3 v4 v5 f2 e7 e29 e114 e111 zl
        obtain ⟨m1, m2, m3, m4⟩ := l1 b0
        have m1' := m1
        obtain ⟨-, m5, -⟩ := m1'
        have m6 : 0 ≤ z_lc B.2.2 := by unfold z_lc; omega
        rw [if_neg (fun x => x b0)] at a9
        have hT2 : zU I2 J K V P M N := zU_f hT (p88_a f2.1 (by decide) (by decide) (by decide) (by decide) (by decide) (by decide) (by decide)) (p88_a f2.1 (by decide) (by decide) (by decide) (by decide) (by decide) (by decide) (by decide)) (p88_a f2.1 (by decide) (by decide) (by decide) (by decide) (by decide) (by decide) (by decide))
        have kb := hN.2.2.2.1 B.2.1 l3 l2
        have kbk := kb.1
        -- a further literal
        have more : ∀ (o' aft' : Int) (w2 w3 w4 w5 : Option Value), (K B.2.1 = 35 ∨ K B.2.1 = 34) → (if K B.2.1 = 35 then 1 else 0) = aft' → (if aft' = 1 then o else o + 1) = o' → w_C xs xl 177 [.ref 104] I2 J b (fun v Ic Jc bc => w_T xs xl 188 265 [some (.ref 104), some (w_i o'), some (w_i 1), w3, w4, w5] [] (w_pv v []) Ic Jc bc Q) := by
          intro o' aft' w2 w3 w4 w5 d1 d2 d3
          rw [if_pos d1] at a9
          have d4 : aft' = 0 ∨ aft' = 1 := by
            rw [← d2]
            split
            · exact Or.inr rfl
            · exact Or.inl rfl
          have d5 : o ≤ o' ∧ o' ≤ o + 1 := by
            rw [← d3]
            split <;> omega
          refine s177 hT2 hNN e7 ⟨l3, l2⟩ (fun cc => ?_) (fun cc I' g => ?_)
          · rw [if_neg (by omega), d2] at a9
            have nx := zN_x hN ⟨l3, l2⟩ (by omega) (by omega)
            have hco := z_co_ok (V := V) hN n (B.2.1 + 1) aft' (by omega) nx d4
            have f3 : z88 c q I1 (w_U I2 104 7 (B.2.1 + 1)) := ⟨w_frU f2.1 (by unfold p88 p28 pzW; simp), fun x => zB1_e (w_Ua (by decide)) (f2.2 x)⟩
            have hT3 : zU (w_U I2 104 7 (B.2.1 + 1)) J K V P M N := zU_f hT2 (w_Ua (by decide)) (w_Ua (by decide)) (w_Ua (by decide))
            refine b188_265 ?_
            try simp only [w_Ug, reduceIte, Nat.reduceEqDiff, Int.reduceEq, eq_self, if_true]
            repeat' (first | apply And.intro | intro)
            all_goals (try first | omega | contradiction | exact Or.inl trivial | exact Or.inr trivial)
            refine ih (B.2.1 + 1) (I2 111 1) (q + 1) o' aft' _ _ _ _ _ (by omega) ⟨by omega, nx⟩ (by simp [w_Ug]) (by rw [w_Ua (by decide)]) (by omega) (by rw [w_Ua (by decide)]; exact e114) (by omega) (by omega) d4 hT3 rfl ?_ ?_
            all_goals generalize z_co K V n (B.2.1 + 1) aft' = D at a9 hco
            all_goals obtain ⟨y1, y2, y3, y4⟩ := hco
            · intro c0 I4 f4 j7 j29 j114 j111 jls
              obtain ⟨y5, y6, y7, y8, y9⟩ := y1 c0
              rw [← a9] at k1
              have hll := z_lenL B.2.2 D.2.2
              refine k1 c0 I4 ⟨w_frt f3.1 (p88_m (by omega) (by omega) f4.1), fun x => f4.2 (f3.2 x)⟩ j7 (by rw [j29, w_Ug, if_pos rfl, if_neg (by decide)]; exact e29) (by dsimp only; omega) ⟨by omega, j111.2⟩ ⟨?_, ?_⟩
              · refine zLi_o zl rfl j111.1 (fun j x => ?_) (fun a x y => ?_)
                · have := p88_c f4.1 (k := j) x
                  rw [w_Ua (by decide), w_Ua (by decide)] at this
                  exact this
                · have := p88_q f4.1 (k := 200 + q) (by omega) (a := a) ⟨x, y⟩
                  rw [w_Ua (by omega)] at this
                  exact this
              · rw [y6, d3]
                exact jls
            · intro c0 I' g
              rw [← a9] at k0
              exact k0 c0 I' (zF_f g (z88_V a4.1 a6.1 f3))
          · rw [if_pos cc] at a9
            rw [← a9] at k0
            have kk := k0 (by simp) I' (zF_e g (z88_V a4.1 a6.1 f2))
            refine b188_265 ?_
            try simp only [w_Ug, reduceIte, Nat.reduceEqDiff, Int.reduceEq, eq_self, if_true]
            repeat' (first | apply And.intro | intro)
            all_goals (try first | omega | contradiction | exact Or.inl trivial | exact Or.inr trivial)
        have sw := fun (kk ch : Int) (Q' : Option Value → w_I → w_I → Bool → Prop) => s179 (xs := xs) (xl := xl) (b := b) (Q := Q') (c := ch) (kk := kk) hT2 hNN e7 ⟨l3, l2⟩ kbk kb.2.2.2
        refine sw 35 11 _ rfl (by decide) (fun ck => ?_) (fun c35 => ?_)
        · have md := fun w2 w3 w4 w5 => more o 1 w2 w3 w4 w5 (Or.inl ck) (if_pos ck) (if_pos rfl)
          refine b188_227 ?_
          try simp only [w_Ug, reduceIte, Nat.reduceEqDiff, Int.reduceEq, eq_self, if_true]
          repeat' (first | apply And.intro | intro)
          all_goals (try first | omega | contradiction | exact Or.inl trivial | exact Or.inr trivial)
          refine sw 34 12 _ rfl (by decide) (fun x => by omega) (fun _ => ?_)
          refine b188_251 ?_
          try simp only [w_Ug, reduceIte, Nat.reduceEqDiff, Int.reduceEq, eq_self, if_true]
          repeat' (first | apply And.intro | intro)
          all_goals (try first | omega | contradiction | exact Or.inl trivial | exact Or.inr trivial)
          exact md none _ _ _
        · refine b188_227 ?_
          try simp only [w_Ug, reduceIte, Nat.reduceEqDiff, Int.reduceEq, eq_self, if_true]
          repeat' (first | apply And.intro | intro)
          all_goals (try first | omega | contradiction | exact Or.inl trivial | exact Or.inr trivial)
          refine sw 34 12 _ rfl (by decide) (fun ck => ?_) (fun c34 => ?_)
          · have md := fun w2 w3 w4 w5 => more (o + 1) 0 w2 w3 w4 w5 (Or.inr ck) (if_neg c35) (if_neg (by decide))
            refine b188_236 ?_
            try simp only [w_Ug, reduceIte, Nat.reduceEqDiff, Int.reduceEq, eq_self, if_true]
            repeat' (first | apply And.intro | intro)
            all_goals (try first | omega | contradiction | exact Or.inl trivial | exact Or.inr trivial)
            refine sw 34 12 _ rfl (by decide) (fun _ => ?_) (fun x => absurd ck x)
            refine b188_251 ?_
            try simp only [w_Ug, reduceIte, Nat.reduceEqDiff, Int.reduceEq, eq_self, if_true]
            repeat' (first | apply And.intro | intro)
            all_goals (try first | omega | contradiction | exact Or.inl trivial | exact Or.inr trivial)
            exact md none _ _ _
          · rw [if_neg (by omega)] at a9
            rw [← a9] at k1
            have kk := k1 rfl I2 f2 e7 e29 e114 e111 ⟨zl, trivial⟩
            refine b188_236 ?_
            try simp only [w_Ug, reduceIte, Nat.reduceEqDiff, Int.reduceEq, eq_self, if_true]
            repeat' (first | apply And.intro | intro)
            all_goals (try first | omega | contradiction | exact Or.inl trivial | exact Or.inr trivial)
            refine sw 34 12 _ rfl (by decide) (fun x => absurd x c34) (fun _ => ?_)
            refine b188_251 ?_
            try simp only [w_Ug, reduceIte, Nat.reduceEqDiff, Int.reduceEq, eq_self, if_true]
            repeat' (first | apply And.intro | intro)
            all_goals (try first | omega | contradiction | exact Or.inl trivial | exact Or.inr trivial)
            refine b188_14 ?_
            try simp only [w_Ug, reduceIte, Nat.reduceEqDiff, Int.reduceEq, eq_self, if_true]
            repeat' (first | apply And.intro | intro)
            all_goals (try first | omega | contradiction | exact Or.inl trivial | exact Or.inr trivial)
      · intro b0 I' g
        rw [if_pos b0] at a9
        rw [← a9] at k0
        exact k0 b0 I' g
  have f0 : z88 c q I (w_U I 104 29 q) := ⟨w_frU w_frr (by unfold p88; simp), zB1_e (w_Ua (by decide))⟩
  rw [h114]
  refine loop (401 - h).toNat h c q 0 0 (w_U I 104 29 q) none none none R (by omega) hh (by rw [w_Ug, if_pos rfl, if_neg (by decide)]; exact h9) (by rw [w_Ua (by decide)]; exact h111) hc (by rw [w_Ua (by decide)]; exact h114) hq (by omega) (Or.inl rfl) (zU_f hT (w_Ua (by decide)) (w_Ua (by decide)) (w_Ua (by decide))) hR (fun r0 I' f e1 e2 e3 e4 e5 => ?_) (fun r0 I' g => ?_)
  · exact k1 r0 I' ⟨w_frt f0.1 f.1, fun x => f.2 (f0.2 x)⟩ e1 (by rw [e2]; simp [w_Ug]) e3 e4 e5
  · exact k0 r0 I' (zF_f g (z88_V hc.1 hq.1 f0))
end
