section
/-! reading, both: the reference's call -/
variable {xs : Nat → Int32} {xl : Nat} {I J : w_I} {b : Bool} {Q : Option Value → w_I → w_I → Bool → Prop}
variable {G K V P M : Int → Int} {n N h : Int} {S : z_S}
def p200 (a : Nat) (k : Int) : Bool := a == 104 || a == 106 || a == 107 || a == 108 || a == 123 || (a == 110 && decide (700 ≤ k ∧ k < 1400)) || ((a == 111 || a == 114) && k == 1) || ((a == 112 || a == 113) && decide (500 ≤ k ∧ k < 1000)) || (Nat.ble 115 a && Nat.ble a 120 && decide (200 ≤ k ∧ k < 400))
theorem pSc_200 {I I' : w_I} (f : w_fr pSc I I') : w_fr p200 I I' := w_frm f (fun a k e => by
  unfold p200 at e
  unfold pSc
  simp only [Bool.or_eq_false_iff, Bool.and_eq_false_iff, beq_eq_false_iff_ne, ne_eq] at e ⊢
  obtain ⟨⟨⟨⟨⟨⟨⟨⟨e1, e2⟩, e3⟩, e4⟩, e5⟩, e6⟩, e7⟩, e8⟩, e9⟩ := e
  exact ⟨⟨⟨e2, e3⟩, e4⟩, Or.inl e1⟩)
theorem p91_200 {I I' : w_I} (f : w_fr (p91 1) I I') : w_fr p200 I I' := w_frm f (fun a k e => by
  unfold p200 at e
  unfold p91
  simp only [Bool.or_eq_false_iff, Bool.and_eq_false_iff, decide_eq_false_iff_not, beq_eq_false_iff_ne, ne_eq] at e ⊢
  obtain ⟨⟨⟨⟨⟨⟨⟨⟨e1, e2⟩, e3⟩, e4⟩, e5⟩, e6⟩, e7⟩, e8⟩, e9⟩ := e
  refine ⟨?_, e7⟩
  rcases e6 with x | x
  · exact Or.inl x
  · exact Or.inr (by omega))
theorem pzV_200 {I I' : w_I} (f : w_fr pzV I I') : w_fr p200 I I' := w_frm f (fun a k e => by
  unfold p200 at e
  unfold pzV pzY
  simp only [Bool.or_eq_false_iff, Bool.and_eq_false_iff, decide_eq_false_iff_not, beq_eq_false_iff_ne, ne_eq] at e ⊢
  obtain ⟨⟨⟨⟨⟨⟨⟨⟨e1, e2⟩, e3⟩, e4⟩, e5⟩, e6⟩, e7⟩, e8⟩, e9⟩ := e
  refine ⟨⟨?_, ?_⟩, ⟨⟨⟨⟨Or.inl e1, e5⟩, e6⟩, ?_⟩, e8⟩, ?_⟩
  · rcases e7 with x | x
    · exact Or.inl x.2
    · exact Or.inr x
  · by_cases c : a = 115
    · subst c
      rcases e9 with x | x
      · rcases x with x | x <;> cases x
      · exact Or.inr x
    · exact Or.inl c
  · rcases e7 with x | x
    · exact Or.inl x.1
    · exact Or.inr x
  · rcases e9 with x | x
    · rcases x with x | x
      · refine Or.inl (Or.inl ?_)
        cases z : Nat.ble 116 a
        · rfl
        · have := Nat.le_of_ble_eq_true z
          rw [Nat.ble_eq_true_of_le (show 115 ≤ a by omega)] at x
          cases x
      · exact Or.inl (Or.inr x)
    · exact Or.inr x)
theorem p200_c {I I' : w_I} (f : w_fr p200 I I') {a : Nat} (h : a < 104) : I' a = I a := w_frA f (fun k => by
  have h1 : a ≠ 104 := by omega
  have h2 : a ≠ 106 := by omega
  have h3 : a ≠ 107 := by omega
  have h4 : a ≠ 108 := by omega
  have h5 : a ≠ 123 := by omega
  have h6 : a ≠ 110 := by omega
  have h7 : a ≠ 111 := by omega
  have h8 : a ≠ 114 := by omega
  have h9 : a ≠ 112 := by omega
  have h10 : a ≠ 113 := by omega
  have h11 : Nat.ble 115 a = false := by
    cases z : Nat.ble 115 a
    · rfl
    · have := Nat.le_of_ble_eq_true z
      omega
  unfold p200
  simp [h1, h2, h3, h4, h5, h6, h7, h8, h9, h10, h11])
/-- the code as it lies -/
def RF (I : w_I) : m_F := (I 112, I 113, I 115, I 116, I 117, I 118, I 119, I 120)
/-- what is told, as the reference keeps it -/
def zEd (F : m_F) (s : Int → Int) (S : z_S) : Prop := (s 0 = (q_sd S).length ∧ z_at s 20 (q_sd S) ∧ z_at s 50 (q_gd S)) ∧ (s 1 = q_st S ∧ s 2 = q_la S ∧ s 3 = q_by S ∧ s 4 = (q_ru S).length) ∧ (s 7 = 0 ∧ s 8 = 0 ∧ s 9 = 0 ∧ s 10 = 0) ∧ (∀ w, 0 ≤ w → w < 4 → (q_lw S w = none → s (11 + 2 * w) = -1) ∧ ∀ C, q_lw S w = some C → 0 ≤ s (11 + 2 * w) ∧ s (11 + 2 * w + 1) = s (11 + 2 * w) + C.length ∧ s (11 + 2 * w + 1) ≤ 400 ∧ z_ro F.1 F.2.1 (s (11 + 2 * w)) C) ∧ ∀ (r : Nat) (L : List z_L), r < 6 → (q_ru S)[r]? = some L → 0 ≤ s (80 + 2 * (r : Int)) ∧ s (80 + 2 * (r : Int) + 1) = s (80 + 2 * (r : Int)) + L.length ∧ s (80 + 2 * (r : Int) + 1) ≤ 200 ∧ zFs F (s (80 + 2 * (r : Int))) 0 L
theorem z_at_s {g g' : Int → Int} {d : Int} : ∀ (C : List Int) (a : Int), (∀ j, a ≤ j → j < a + C.length → g' j = g (d + j)) → z_at g (d + a) C → z_at g' a C
  | [], _, _, _ => trivial
  | x :: r, a, h, ⟨h1, h2⟩ => by
    have hl := z_len x r
    refine ⟨(h a (Int.le_refl _) (by omega)).trans h1, z_at_s r (a + 1) (fun j x y => h j (by omega) (by omega)) ?_⟩
    rw [← Int.add_assoc]
    exact h2
theorem z_ro_s {op va op' va' : Int → Int} {d : Int} {C : List Int} {a : Int} (h : ∀ j, a ≤ j → j < a + C.length → op' j = op (d + j) ∧ va' j = va (d + j)) (hz : z_ro op va (d + a) C) : z_ro op' va' a C := by
  refine ⟨z_at_s _ _ (fun j x y => ?_) hz.1, z_at_s _ _ (fun j x y => ?_) hz.2⟩
  · rw [List.length_map] at y
    exact (h j x y).1
  · rw [List.length_map] at y
    exact (h j x y).2
theorem zFs_L {I : w_I} {F : m_F} (hc : ∀ k, 0 ≤ k → k < 500 → F.1 k = I 112 (500 + k) ∧ F.2.1 k = I 113 (500 + k)) (hl : ∀ k, 0 ≤ k → k < 200 → m_ln F k = I 115 (200 + k) ∧ m_lo F k = I 116 (200 + k) ∧ m_la F k = I 117 (200 + k) ∧ m_lb F k = I 118 (200 + k) ∧ m_lc F k = I 119 (200 + k) ∧ m_lr F k = I 120 (200 + k)) (h111 : I 111 1 ≤ 400) : ∀ (L : List z_L) (k o : Int), 0 ≤ k → k + L.length ≤ 200 → zLs I k o L → zFs F k o L
  | [], _, _, _, _, _ => trivial
  | l :: r, k, o, h0, h1, ⟨⟨⟨a1, a2, a3⟩, ⟨b1, b2, b3, b4⟩, c1, c2⟩, hr⟩ => by
    have hl' := z_lenL l r
    obtain ⟨l1, l2, l3, l4, l5, l6⟩ := hl k h0 (by omega)
    refine ⟨⟨⟨?_, ?_, ?_⟩, ⟨?_, ?_, ?_, ?_⟩, ?_, ?_⟩, zFs_L hc hl h111 r (k + 1) _ (by omega) (by omega) hr⟩
    · rw [l1]; exact a1
    · rw [l2]; exact a2
    · rw [l6]; exact a3
    · rw [l3]; exact b1
    · rw [l3, l4]; exact b2
    · rw [l4, l5]; exact b3
    · rw [l5]; omega
    · rw [l3]
      exact z_ro_s (fun j x y => hc j (by omega) (by omega)) c1
    · rw [l4]
      exact z_ro_s (fun j x y => hc j (by omega) (by omega)) c2
theorem zEd_k {I J I' : w_I} (hz : zK I J P M h S) (hq : zQ K h S) (hh : h ≤ 400) (h110 : I' 110 = m_cpy (I 110) 700 1 0) (h112 : I' 112 = m_cpy (I 112) 500 1 0) (h113 : I' 113 = m_cpy (I 113) 500 1 0) (h115 : ∀ a : Nat, 115 ≤ a → a ≤ 120 → I' a = m_cpy (I a) 200 1 0) : zEd (RF I') (I' 110) S := by
  obtain ⟨-, -, ⟨b1, b2, b3, b4⟩, ⟨c1, c2, c3, c4⟩, ⟨d1, d2, d3, d4⟩, ⟨⟨e1, e2⟩, e3, e4⟩, g1, g2⟩ := hz
  obtain ⟨⟨q1, q2, q3, q4⟩, -⟩ := hq
  have s : ∀ k, 0 ≤ k → k < 700 → I' 110 k = I 110 (700 + k) := fun k x y => by
    rw [h110]
    unfold m_cpy
    rw [if_pos (by omega), show 700 * 1 + (k - 700 * 0) = 700 + k by omega]
  have co : ∀ k, 0 ≤ k → k < 500 → (RF I').1 k = I 112 (500 + k) ∧ (RF I').2.1 k = I 113 (500 + k) := fun k x y => by
    show I' 112 k = _ ∧ I' 113 k = _
    rw [h112, h113]
    unfold m_cpy
    rw [if_pos (by omega), if_pos (by omega), show 500 * 1 + (k - 500 * 0) = 500 + k by omega]
    exact ⟨rfl, rfl⟩
  have li : ∀ (a : Nat) (k : Int), 115 ≤ a → a ≤ 120 → 0 ≤ k → k < 200 → I' a k = I a (200 + k) := fun a k u v x y => by
    rw [h115 a u v]
    unfold m_cpy
    rw [if_pos (by omega), show 200 * 1 + (k - 200 * 0) = 200 + k by omega]
  have li' : ∀ k, 0 ≤ k → k < 200 → m_ln (RF I') k = I 115 (200 + k) ∧ m_lo (RF I') k = I 116 (200 + k) ∧ m_la (RF I') k = I 117 (200 + k) ∧ m_lb (RF I') k = I 118 (200 + k) ∧ m_lc (RF I') k = I 119 (200 + k) ∧ m_lr (RF I') k = I 120 (200 + k) := fun k x y => ⟨li 115 k (by decide) (by decide) x y, li 116 k (by decide) (by decide) x y, li 117 k (by decide) (by decide) x y, li 118 k (by decide) (by decide) x y, li 119 k (by decide) (by decide) x y, li 120 k (by decide) (by decide) x y⟩
  refine ⟨⟨?_, ?_, ?_⟩, ⟨?_, ?_, ?_, ?_⟩, ⟨?_, ?_, ?_, ?_⟩, fun w x y => ?_, fun r L x e => ?_⟩
  · rw [s 0 (by decide) (by decide)]; exact b1
  · exact z_at_s (d := 700) _ _ (fun j x y => s j (by omega) (by omega)) b2
  · exact z_at_s (d := 700) _ _ (fun j x y => s j (by omega) (by omega)) b3
  · rw [s 1 (by decide) (by decide)]; exact c1
  · rw [s 2 (by decide) (by decide)]; exact c2
  · rw [s 3 (by decide) (by decide)]; exact c3
  · rw [s 4 (by decide) (by decide)]; exact c4
  · rw [s 7 (by decide) (by decide)]; exact d1
  · rw [s 8 (by decide) (by decide)]; exact d2
  · rw [s 9 (by decide) (by decide)]; exact d3
  · rw [s 10 (by decide) (by decide)]; exact d4
  · obtain ⟨a1, a2⟩ := g1 w x y
    rw [s (11 + 2 * w) (by omega) (by omega), s (11 + 2 * w + 1) (by omega) (by omega)]
    refine ⟨a1, fun C e => ?_⟩
    obtain ⟨u1, u2, u3, u4⟩ := a2 C e
    exact ⟨u1, u2, by omega, z_ro_s (fun j x y => co j (by omega) (by omega)) u4⟩
  · obtain ⟨u1, u2, u3, u4⟩ := g2 r x L e
    rw [s (80 + 2 * (r : Int)) (by omega) (by omega), s (80 + 2 * (r : Int) + 1) (by omega) (by omega)]
    exact ⟨u1, u2, by omega, zFs_L co li' (by omega) L _ 0 u1 (by omega) u4⟩
theorem s200 {T : Int → Int} {t : Int} (hT : s_tp I T t) (hb : ∀ k, 0 ≤ k → k < t → 0 ≤ T k ∧ T k < 256) (hB : zB1 I) {R : z_R} (hR : z_all (t_K (t_G T t) t) (t_V (t_G T t) t) (t_N (t_G T t) t) 401 0 z_S0 = R)
    (k0 : R.1 ≠ 0 → ∀ I' J', w_fr p200 I I' → zB1 I' → I' 104 0 = 0 → I' 104 9 = t_P (t_G T t) t R.2.1 → Q (some (w_i R.1)) I' J' b)
    (k1 : R.1 = 0 → q_ln R.2.2 ≠ 0 → ∀ I' J', w_fr p200 I I' → zB1 I' → I' 104 0 = 0 → I' 104 9 = t_P (t_G T t) t (q_li R.2.2) → Q (some (w_i (q_ln R.2.2))) I' J' b)
    (k2 : R.1 = 0 → q_ln R.2.2 = 0 → ∀ I' J', (∀ a, (a < 104 ∨ a = 105 ∨ 123 < a) → I' a = I a) → zB1 I' → I' 104 0 = 0 → I' 104 9 = -1 → I' 121 2 = 0 → I' 121 3 = 0 → zEd (RF I') (I' 110) R.2.2 → R.2.1 ≤ 400 → Q (some (w_i 0)) I' J' b) : w_C xs xl 200 [.ref 104] I J b Q := by
  obtain ⟨h1, h2, h3⟩ := hT
  have zh : zH I (t_G T t) t := by
    refine ⟨h1, h2, fun k x y => ?_, fun k x => if_neg (by omega), fun k x => ?_⟩
    · unfold t_G
      rw [if_pos y]
      exact h3 k x y
    · unfold t_G
      split
      · exact hb k x (by assumption)
      · omega
  have hz : ∀ k, t ≤ k → t_G T t k = 0 := fun k x => if_neg (by omega)
  refine e200 (b200_0 (s174 zh (fun N' I1 J1 n0 n1 n2 f1 j1 u1 => b200_4 ?_)))
  have f1' := pSc_200 f1
  have B1 : zB1 I1 := zB1_e (w_frA f1 (fun _ => rfl)) hB
  -- the tokens that count
  obtain ⟨N, hNd⟩ : ∃ N, N = min N' 400 := ⟨_, rfl⟩
  have hN : zN (t_K (t_G T t) t) (t_V (t_G T t) t) (t_P (t_G T t) t) N := t_zN h2 hz (by omega) (fun i x y => n1 i x (by omega)) (by
    by_cases c : N' ≤ 400
    · rw [show N = N' by omega]
      exact Or.inl n2
    · right
      omega)
  have hM : ∀ i, 0 ≤ i → i ≤ N → t_K (t_G T t) t i = 2 → w_inl (t_N (t_G T t) t i) := by
    intro i x y e
    obtain ⟨a1, a2, a3, a4⟩ := t_kd_2 e
    obtain ⟨a5, a6, a7⟩ := t_wl_b a1 a2
    have va : t_V (t_G T t) t i = t_wl (t_G T t) t (t_p (t_G T t) t i.toNat) := a4
    unfold t_N t_P
    rw [va]
    exact t_nm_in (by omega) a7
  have hU : zU I1 J1 (t_K (t_G T t) t) (t_V (t_G T t) t) (t_P (t_G T t) t) (t_N (t_G T t) t) N := fun i x y => u1 i x (by omega)
  refine s191 (by decide) (fun I3 f3 c3 c4 c5 => b200_24 ?_)
  have fa : w_fr p200 I I3 := w_frt (w_frU (w_frU (w_frU f1' rfl) rfl) rfl) (p91_200 f3)
  have B3 : zB1 I3 := zB1_e (by rw [w_frA f3 (a := 115) (fun _ => rfl), w_Ua (by decide), w_Ua (by decide), w_Ua (by decide)]) B1
  have hU3 : zU I3 J1 (t_K (t_G T t) t) (t_V (t_G T t) t) (t_P (t_G T t) t) (t_N (t_G T t) t) N := zU_f hU (by rw [w_frA f3 (a := 106) (fun _ => rfl), w_Ua (by decide), w_Ua (by decide), w_Ua (by decide)]) (by rw [w_frA f3 (a := 107) (fun _ => rfl), w_Ua (by decide), w_Ua (by decide), w_Ua (by decide)]) (by rw [w_frA f3 (a := 108) (fun _ => rfl), w_Ua (by decide), w_Ua (by decide), w_Ua (by decide)])
  have i4 : I3 104 = w_U (w_U (w_U I1 104 8 0) 104 9 (-1)) 104 10 0 104 := w_frA f3 (fun _ => rfl)
  have ce : ∀ j v, (if j = 1 then 1 else if j = 2 then 3 else if 11 ≤ j ∧ j ≤ 18 then -1 else 0) = v → 0 ≤ j → j < 700 → (w_U I3 104 7 0) 110 (700 + j) = v := fun j v e x y => by
    rw [w_Ua (by decide), ← e]
    exact c3 j x y
  have z0 : zK (w_U I3 104 7 0) J1 (t_P (t_G T t) t) (t_N (t_G T t) t) 0 z_S0 := by
    refine ⟨⟨by simp [w_Ug], ?_⟩, ⟨Or.inl rfl, ?_, fun x => absurd rfl x⟩, ⟨?_, trivial, trivial, trivial⟩, ⟨?_, ?_, ?_, ?_⟩, ⟨?_, ?_, ?_, ?_⟩, ⟨?_, ?_⟩, fun w x y => ⟨fun _ => ?_, fun C e => (by cases e)⟩, fun r x L e => (by cases e)⟩
    · rw [w_Ug, if_pos rfl, if_neg (by decide), w_Ug, if_pos rfl, if_neg (by decide), i4]; simp [w_Ug]
    · rw [w_Ug, if_pos rfl, if_neg (by decide), i4]; simp [w_Ug]; rfl
    · exact ce 0 0 rfl (by decide) (by decide)
    · exact ce 1 1 rfl (by decide) (by decide)
    · exact ce 2 3 rfl (by decide) (by decide)
    · exact ce 3 0 rfl (by decide) (by decide)
    · exact ce 4 0 rfl (by decide) (by decide)
    · exact ce 7 0 rfl (by decide) (by decide)
    · exact ce 8 0 rfl (by decide) (by decide)
    · exact ce 9 0 rfl (by decide) (by decide)
    · exact ce 10 0 rfl (by decide) (by decide)
    · rw [w_Ua (by decide), c4]; decide
    · rw [w_Ua (by decide), c5]; decide
    · exact ce (11 + 2 * w) (-1) (by rw [if_neg (by omega), if_neg (by omega), if_pos (by omega)]) (by omega) (by omega)
  refine s199 hN hM hU3 z0 hR (fun r I4 J4 f4 z4 => ?_) (fun r I4 J4 g4 => ?_)
  · have zk := z_all_ok (M := t_N (t_G T t) t) hN 401 0 z_S0 (by decide) hN.1.1 ⟨⟨rfl, rfl, by decide, by decide⟩, fun t ht => (by cases ht), fun x => absurd rfl x⟩ ⟨Or.inl rfl, fun x hx => (by cases hx), fun x hx => (by cases hx), ⟨by decide, fun _ => by decide⟩, ⟨by decide, fun _ => by decide⟩, Or.inl rfl, fun w C e => (by cases e), fun L hL => (by cases hL)⟩
    rw [hR] at zk
    have hqq := (zk.1 r).1
    have hh : R.2.1 ≤ 400 := by
      have := zk.2.1
      have := hN.1.2
      omega
    obtain ⟨l1, l2, l3⟩ := z4.2.1
    have l8 := z4.1.2.1
    have fb := w_frt fa (pzV_200 f4.1)
    have B4 := f4.2 B3
    by_cases cl : q_ln R.2.2 = 0
    · rw [cl] at l2
      have fin : w_C xs xl 192 [.ref 104, w_i 1, w_i 0] (w_U I4 104 0 0) J4 b (fun v Ic Jc bc => w_T xs xl 200 77 [some (.ref 104)] [] (w_pv v []) Ic Jc bc Q) := by
        refine s192 (by decide) (by decide) (by decide) (by rw [w_Ua (by decide)]; exact B4) (fun I5 f5 a110 a112 a113 a115 a116 a117 a118 a119 a120 => b200_77 ?_)
        rw [w_Ua (by decide)] at a110 a112 a113 a115 a116 a117 a118 a119 a120
        have ea : ∀ a, a ≠ 121 → (w_U (w_U I5 121 2 0) 121 3 0) a = I5 a := fun a x => by rw [w_Ua x, w_Ua x]
        refine k2 r cl _ J4 (fun a ha => ?_) ?_ ?_ ?_ (by simp [w_Ug]) (by simp [w_Ug]) ?_ hh
        · have fc : I5 a = (w_U I4 104 0 0) a := w_frA f5 (fun k => by
            unfold p192
            rcases ha with x | x | x
            · have : Nat.ble 110 a = false := by
                cases z : Nat.ble 110 a
                · rfl
                · have := Nat.le_of_ble_eq_true z
                  omega
              rw [this]; rfl
            · subst x; rfl
            · have : Nat.ble a 120 = false := by
                cases z : Nat.ble a 120
                · rfl
                · have := Nat.le_of_ble_eq_true z
                  omega
              rw [this, Bool.and_false])
          rw [ea a (by omega), fc, w_Ua (by omega)]
          refine w_frA fb (fun k => ?_)
          have h1 : a ≠ 104 := by omega
          have h2 : a ≠ 106 := by omega
          have h3 : a ≠ 107 := by omega
          have h4 : a ≠ 108 := by omega
          have h5 : a ≠ 123 := by omega
          have h6 : a ≠ 110 := by omega
          have h7 : a ≠ 111 := by omega
          have h8 : a ≠ 114 := by omega
          have h9 : a ≠ 112 := by omega
          have h10 : a ≠ 113 := by omega
          have h11 : (Nat.ble 115 a && Nat.ble a 120) = false := by
            cases z : Nat.ble 115 a
            · rfl
            · cases z2 : Nat.ble a 120
              · rfl
              · have := Nat.le_of_ble_eq_true z
                have := Nat.le_of_ble_eq_true z2
                omega
          unfold p200
          simp [h1, h2, h3, h4, h5, h6, h7, h8, h9, h10, h11]
        · refine zB1_e (I := I5) (ea 115 (by decide)) (fun k x y => ?_)
          rw [a115]
          unfold m_cpy
          split
          · exact B4 _ (by omega) (by omega)
          · exact B4 k x y
        · rw [ea 104 (by decide), w_frA f5 (a := 104) (fun _ => rfl)]; simp [w_Ug]
        · have e9 : I4 104 9 = -1 := by
            exact z4.1.2.2
          rw [ea 104 (by decide), w_frA f5 (a := 104) (fun _ => rfl), w_Ug, if_pos rfl, if_neg (by decide)]
          exact e9
        · have hr : RF (w_U (w_U I5 121 2 0) 121 3 0) = RF I5 := by
            unfold RF
            rw [ea 112 (by decide), ea 113 (by decide), ea 115 (by decide), ea 116 (by decide), ea 117 (by decide), ea 118 (by decide), ea 119 (by decide), ea 120 (by decide)]
          rw [hr, ea 110 (by decide)]
          refine zEd_k z4 hqq hh a110 a112 a113 (fun a x y => ?_)
          have : a = 115 ∨ a = 116 ∨ a = 117 ∨ a = 118 ∨ a = 119 ∨ a = 120 := by omega
          rcases this with e | e | e | e | e | e <;> subst e
          · exact a115
          · exact a116
          · exact a117
          · exact a118
          · exact a119
          · exact a120
      refine b200_28 ?_
      try simp only [w_Ug, reduceIte, Nat.reduceEqDiff, Int.reduceEq, eq_self, l2, l8]
      repeat' (first | apply And.intro | intro)
      all_goals (try first | omega | contradiction | exact Or.inl trivial | exact Or.inr trivial)
    · have l3 := l3 cl
      have kk := k1 r cl (w_U (w_U (w_U I4 104 8 (q_ln R.2.2)) 104 9 (t_P (t_G T t) t (q_li R.2.2))) 104 0 0) J4 (w_frU (w_frU (w_frU fb rfl) rfl) rfl) (zB1_e (by rw [w_Ua (by decide), w_Ua (by decide), w_Ua (by decide)]) B4) (by simp [w_Ug]) (by simp [w_Ug])
      refine b200_28 ?_
      try simp only [w_Ug, reduceIte, Nat.reduceEqDiff, Int.reduceEq, eq_self, l2, l8, l3]
      repeat' (first | apply And.intro | intro)
      all_goals (try first | omega | contradiction | exact Or.inl trivial | exact Or.inr trivial)
  · obtain ⟨f4, g8, g9⟩ := g4
    have r2 := z_all_2 (K := t_K (t_G T t) t) (V := t_V (t_G T t) t) (M := t_N (t_G T t) t) 401 0 z_S0
    have r0 := (z_all_ok (M := t_N (t_G T t) t) hN 401 0 z_S0 (by decide) hN.1.1 ⟨⟨rfl, rfl, by decide, by decide⟩, fun t ht => (by cases ht), fun x => absurd rfl x⟩ ⟨Or.inl rfl, fun x hx => (by cases hx), fun x hx => (by cases hx), ⟨by decide, fun _ => by decide⟩, ⟨by decide, fun _ => by decide⟩, Or.inl rfl, fun w C e => (by cases e), fun L hL => (by cases hL)⟩).2.2.2
    rw [hR] at r2 r0
    have kk := k0 r (w_U I4 104 0 0) J4 (w_frU (w_frt fa (pzV_200 f4.1)) rfl) (zB1_e (w_Ua (by decide)) (f4.2 B3)) (by simp [w_Ug]) (by rw [w_Ug, if_pos rfl, if_neg (by decide)]; exact g9)
    refine b200_28 ?_
    try simp only [w_Ug, reduceIte, Nat.reduceEqDiff, Int.reduceEq, eq_self, g8]
    repeat' (first | apply And.intro | intro)
    all_goals (try first | omega | contradiction | exact Or.inl trivial | exact Or.inr trivial)
end
