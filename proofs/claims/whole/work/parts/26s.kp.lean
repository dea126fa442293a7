section
/-! reading, the reference: what is told, its steps -/
variable {xs : Nat → Int32} {xl : Nat} {I J : w_I} {b : Bool} {Q : Option Value → w_I → w_I → Bool → Prop}
variable {K V P M : Int → Int} {N h : Int} {S : z_S}
def zKw (I : w_I) (S : z_S) (w : Int) : Prop := (q_lw S w = none → I 110 (700 + (11 + 2 * w)) = -1) ∧ ∀ C, q_lw S w = some C → 0 ≤ I 110 (700 + (11 + 2 * w)) ∧ I 110 (700 + (11 + 2 * w + 1)) = I 110 (700 + (11 + 2 * w)) + C.length ∧ I 110 (700 + (11 + 2 * w + 1)) ≤ I 111 1 ∧ z_ro (I 112) (I 113) (500 + I 110 (700 + (11 + 2 * w))) C
def zKu (I : w_I) (S : z_S) (r : Nat) : Prop := ∀ L, (q_ru S)[r]? = some L → 0 ≤ I 110 (700 + (80 + 2 * (r : Int))) ∧ I 110 (700 + (80 + 2 * (r : Int) + 1)) = I 110 (700 + (80 + 2 * (r : Int))) + L.length ∧ I 110 (700 + (80 + 2 * (r : Int) + 1)) ≤ I 114 1 ∧ zLs I (I 110 (700 + (80 + 2 * (r : Int)))) 0 L
/-- what is told late -/
def zKn (I : w_I) (P : Int → Int) (S : z_S) : Prop := (q_ln S = 0 ∨ q_ln S = 3 ∨ q_ln S = 5) ∧ I 104 10 = q_ln S ∧ (q_ln S ≠ 0 → I 104 11 = P (q_li S))
/-- the reference while it reads -/
def zK (I J : w_I) (P M : Int → Int) (h : Int) (S : z_S) : Prop :=
  (I 104 7 = h ∧ I 104 8 = 0 ∧ I 104 9 = -1) ∧ zKn I P S ∧ (I 110 700 = (q_sd S).length ∧ z_at (I 110) 720 (q_sd S) ∧ z_at (I 110) 750 (q_gd S) ∧ z_at (J 122) 0 ((q_tk S).map M)) ∧ (I 110 701 = q_st S ∧ I 110 702 = q_la S ∧ I 110 703 = q_by S ∧ I 110 704 = (q_ru S).length) ∧ (I 110 707 = 0 ∧ I 110 708 = 0 ∧ I 110 709 = 0 ∧ I 110 710 = 0) ∧ ((0 ≤ I 111 1 ∧ I 111 1 ≤ h) ∧ 0 ≤ I 114 1 ∧ 3 * I 114 1 ≤ h) ∧ (∀ w, 0 ≤ w → w < 4 → zKw I S w) ∧ ∀ r : Nat, r < 6 → zKu I S r
theorem zKw_o {I' : w_I} {w c : Int} (hz : zKw I S w) (h111 : I 111 1 = c) (c1 : c ≤ I' 111 1) (a1 : I' 110 (700 + (11 + 2 * w)) = I 110 (700 + (11 + 2 * w))) (a2 : I' 110 (700 + (11 + 2 * w + 1)) = I 110 (700 + (11 + 2 * w + 1))) (fc : ∀ j, j < 500 + c → I' 112 j = I 112 j ∧ I' 113 j = I 113 j) : zKw I' S w := by
  unfold zKw
  rw [a1, a2]
  refine ⟨hz.1, fun C e => ?_⟩
  obtain ⟨x1, x2, x3, x4⟩ := hz.2 C e
  exact ⟨x1, x2, by omega, z_ro_c (fun j x y => fc j (by omega)) x4⟩
theorem zKu_o {I' : w_I} {r : Nat} {c q : Int} (hz : zKu I S r) (h111 : I 111 1 = c) (c1 : c ≤ I' 111 1) (h114 : I 114 1 = q) (q1 : q ≤ I' 114 1) (a1 : I' 110 (700 + (80 + 2 * (r : Int))) = I 110 (700 + (80 + 2 * (r : Int)))) (a2 : I' 110 (700 + (80 + 2 * (r : Int) + 1)) = I 110 (700 + (80 + 2 * (r : Int) + 1))) (fc : ∀ j, j < 500 + c → I' 112 j = I 112 j ∧ I' 113 j = I 113 j) (fl : ∀ (a : Nat) (j : Int), 115 ≤ a → a ≤ 120 → j < 200 + q → I' a j = I a j) : zKu I' S r := by
  intro L e
  obtain ⟨x1, x2, x3, x4⟩ := hz L e
  rw [a1, a2]
  exact ⟨x1, x2, by omega, zLs_o h111 c1 fc fl L _ _ (by omega) x4⟩
theorem zKw_s {S' : z_S} {w : Int} (hz : zKw I S w) (e : q_lw S' = q_lw S) : zKw I S' w := by
  unfold zKw
  rw [e]
  exact hz
theorem zKu_s {S' : z_S} {r : Nat} (hz : zKu I S r) (e : q_ru S' = q_ru S) : zKu I S' r := by
  unfold zKu
  rw [e]
  exact hz
/-- only the reader's own cells change -/
theorem zK_4 {h' : Int} {S' : z_S} {I' : w_I} (hz : zK I J P M h S) (hs : zSl S S') (f : ∀ a, a ≠ 104 → I' a = I a) (h7 : I' 104 7 = h') (h8 : I' 104 8 = 0 ∧ I' 104 9 = -1) (hl : zKn I' P S') (hh : h ≤ h') : zK I' J P M h' S' := by
  obtain ⟨-, -, ⟨b1, b2, b3, b4⟩, ⟨c1, c2, c3, c4⟩, d, ⟨e1, e2⟩, g1, g2⟩ := hz
  obtain ⟨s1, s2, s3, s4, s5, s6, s7, s8⟩ := hs
  have f110 := f 110 (by decide)
  have f111 := f 111 (by decide)
  have f112 := f 112 (by decide)
  have f113 := f 113 (by decide)
  have f114 := f 114 (by decide)
  refine ⟨⟨h7, h8⟩, hl, ?_, ?_, ?_, ?_, fun w x y => zKw_s (zKw_o (g1 w x y) rfl (by rw [f111]; exact Int.le_refl _) (by rw [f110]) (by rw [f110]) (fun j _ => by rw [f112, f113]; exact ⟨rfl, rfl⟩)) s7, fun r x => zKu_s (zKu_o (g2 r x) rfl (by rw [f111]; exact Int.le_refl _) rfl (by rw [f114]; exact Int.le_refl _) (by rw [f110]) (by rw [f110]) (fun j _ => by rw [f112, f113]; exact ⟨rfl, rfl⟩) (fun a j x y _ => by rw [f a (by omega)])) s8⟩
  · rw [f110, s1, s2, s3]
    exact ⟨b1, b2, b3, b4⟩
  · rw [f110, s4, s5, s6, s8]
    exact ⟨c1, c2, c3, c4⟩
  · rw [f110]
    exact d
  · rw [f111, f114]
    omega
/-- cells of houses to come -/
theorem zK_w {e v : Int} (hz : zK I J P M h S) (l : (q_gd S).length = (q_sd S).length) (hl : (q_sd S).length ≤ 24) (he : (720 + ((q_sd S).length : Int) ≤ e ∧ e < 750) ∨ (750 + ((q_sd S).length : Int) ≤ e ∧ e < 780)) : zK (w_U I 110 e v) J P M h S := by
  obtain ⟨a, a1, ⟨b1, b2, b3, b4⟩, ⟨c1, c2, c3, c4⟩, ⟨d1, d2, d3, d4⟩, ⟨e1, e2⟩, g1, g2⟩ := hz
  have f : ∀ a, a ≠ 110 → (w_U I 110 e v) a = I a := fun a x => w_Ua x
  have f110 : ∀ k, k ≠ e → (w_U I 110 e v) 110 k = I 110 k := fun k x => by rw [w_Ug, if_pos rfl, if_neg x]
  refine ⟨?_, ?_, ⟨?_, ?_, ?_, b4⟩, ⟨?_, ?_, ?_, ?_⟩, ⟨?_, ?_, ?_, ?_⟩, ?_, fun w x y => zKw_o (g1 w x y) rfl (by rw [f 111 (by decide)]; exact Int.le_refl _) (f110 _ (by omega)) (f110 _ (by omega)) (fun j _ => by rw [f 112 (by decide), f 113 (by decide)]; exact ⟨rfl, rfl⟩), fun r x => zKu_o (g2 r x) rfl (by rw [f 111 (by decide)]; exact Int.le_refl _) rfl (by rw [f 114 (by decide)]; exact Int.le_refl _) (f110 _ (by omega)) (f110 _ (by omega)) (fun j _ => by rw [f 112 (by decide), f 113 (by decide)]; exact ⟨rfl, rfl⟩) (fun a j x y _ => by rw [f a (by omega)])⟩
  · rw [f 104 (by decide)]; exact a
  · unfold zKn; rw [f 104 (by decide)]; exact a1
  · rw [f110 _ (by omega)]; exact b1
  · exact z_at_c _ _ (fun j x y => f110 _ (by omega)) b2
  · exact z_at_c _ _ (fun j x y => f110 _ (by omega)) b3
  · rw [f110 _ (by omega)]; exact c1
  · rw [f110 _ (by omega)]; exact c2
  · rw [f110 _ (by omega)]; exact c3
  · rw [f110 _ (by omega)]; exact c4
  · rw [f110 _ (by omega)]; exact d1
  · rw [f110 _ (by omega)]; exact d2
  · rw [f110 _ (by omega)]; exact d3
  · rw [f110 _ (by omega)]; exact d4
  · rw [f 111 (by decide), f 114 (by decide)]; exact ⟨e1, e2⟩
/-- a house -/
theorem zK_h {t side g : Int} (hz : zK I J P M h S) (l1 : (q_gd S).length = (q_sd S).length) (l2 : (q_tk S).length = (q_sd S).length) (hl : (q_sd S).length < 24) (e1 : I 110 (720 + (q_sd S).length) = side) (e2 : J 122 (q_sd S).length = M t) : zK (w_U (w_U I 110 (750 + (q_sd S).length) g) 110 700 ((q_sd S).length + 1)) J P M h (z_ah t side g S) := by
  have hz' := zK_w (e := 750 + (q_sd S).length) (v := g) hz l1 (by omega) (Or.inr (by omega))
  have k1 : (w_U I 110 (750 + (q_sd S).length) g) 110 (750 + (q_sd S).length) = g := by rw [w_Ug, if_pos rfl, if_pos rfl]
  have k2 : (w_U I 110 (750 + (q_sd S).length) g) 110 (720 + (q_sd S).length) = side := by rw [w_Ug, if_pos rfl, if_neg (by omega)]; exact e1
  generalize (w_U I 110 (750 + (q_sd S).length) g) = I1 at hz' k1 k2
  obtain ⟨a, a1, ⟨b1, b2, b3, b4⟩, ⟨c1, c2, c3, c4⟩, ⟨d1, d2, d3, d4⟩, ⟨g1, g2⟩, g3, g4⟩ := hz'
  have f : ∀ a, a ≠ 110 → (w_U I1 110 700 ((q_sd S).length + 1)) a = I1 a := fun a x => w_Ua x
  have f110 : ∀ k, k ≠ 700 → (w_U I1 110 700 ((q_sd S).length + 1)) 110 k = I1 110 k := fun k x => by rw [w_Ug, if_pos rfl, if_neg x]
  refine ⟨?_, ?_, ⟨?_, ?_, ?_, ?_⟩, ⟨?_, ?_, ?_, ?_⟩, ⟨?_, ?_, ?_, ?_⟩, ?_, fun w x y => zKw_s (zKw_o (g3 w x y) rfl (by rw [f 111 (by decide)]; exact Int.le_refl _) (f110 _ (by omega)) (f110 _ (by omega)) (fun j _ => by rw [f 112 (by decide), f 113 (by decide)]; exact ⟨rfl, rfl⟩)) rfl, fun r x => zKu_s (zKu_o (g4 r x) rfl (by rw [f 111 (by decide)]; exact Int.le_refl _) rfl (by rw [f 114 (by decide)]; exact Int.le_refl _) (f110 _ (by omega)) (f110 _ (by omega)) (fun j _ => by rw [f 112 (by decide), f 113 (by decide)]; exact ⟨rfl, rfl⟩) (fun a j x y _ => by rw [f a (by omega)])) rfl⟩
  · rw [f 104 (by decide)]; exact a
  · unfold zKn; rw [f 104 (by decide)]; exact a1
  · rw [w_Ug, if_pos rfl, if_pos rfl]
    show _ = (((q_sd S ++ [side]).length : Nat) : Int)
    rw [z_lena]
    rfl
  · refine z_at_a _ _ _ (z_at_c _ _ (fun j x y => f110 _ (by omega)) b2) ⟨?_, trivial⟩
    rw [f110 _ (by omega)]
    exact k2
  · refine z_at_a _ _ _ (z_at_c _ _ (fun j x y => f110 _ (by omega)) b3) ⟨?_, trivial⟩
    rw [f110 _ (by omega), l1]
    exact k1
  · show z_at (J 122) 0 ((q_tk S ++ [t]).map M)
    rw [List.map_append]
    refine z_at_a _ _ _ b4 ⟨?_, trivial⟩
    rw [List.length_map, l2, Int.zero_add]
    exact e2
  · rw [f110 _ (by omega)]; exact c1
  · rw [f110 _ (by omega)]; exact c2
  · rw [f110 _ (by omega)]; exact c3
  · rw [f110 _ (by omega)]; exact c4
  · rw [f110 _ (by omega)]; exact d1
  · rw [f110 _ (by omega)]; exact d2
  · rw [f110 _ (by omega)]; exact d3
  · rw [f110 _ (by omega)]; exact d4
  · rw [f 111 (by decide), f 114 (by decide)]; exact ⟨g1, g2⟩
/-- step, lane, by -/
theorem zK_n {e v : Int} {S' : z_S} (hz : zK I J P M h S) (he : 701 ≤ e ∧ e ≤ 703) (s1 : q_sd S' = q_sd S) (s2 : q_gd S' = q_gd S) (s3 : q_tk S' = q_tk S) (s4 : q_lw S' = q_lw S) (s5 : q_ru S' = q_ru S) (s6 : q_ln S' = q_ln S) (s7 : q_li S' = q_li S) (g1 : (if e = 701 then v else q_st S) = q_st S') (g2 : (if e = 702 then v else q_la S) = q_la S') (g3 : (if e = 703 then v else q_by S) = q_by S') : zK (w_U I 110 e v) J P M h S' := by
  obtain ⟨a, a1, ⟨b1, b2, b3, b4⟩, ⟨c1, c2, c3, c4⟩, ⟨d1, d2, d3, d4⟩, ⟨e1, e2⟩, p1, p2⟩ := hz
  have f : ∀ a, a ≠ 110 → (w_U I 110 e v) a = I a := fun a x => w_Ua x
  have f110 : ∀ k, k ≠ e → (w_U I 110 e v) 110 k = I 110 k := fun k x => by rw [w_Ug, if_pos rfl, if_neg x]
  refine ⟨?_, ?_, ⟨?_, ?_, ?_, ?_⟩, ⟨?_, ?_, ?_, ?_⟩, ⟨?_, ?_, ?_, ?_⟩, ?_, fun w x y => zKw_s (zKw_o (p1 w x y) rfl (by rw [f 111 (by decide)]; exact Int.le_refl _) (f110 _ (by omega)) (f110 _ (by omega)) (fun j _ => by rw [f 112 (by decide), f 113 (by decide)]; exact ⟨rfl, rfl⟩)) s4, fun r x => zKu_s (zKu_o (p2 r x) rfl (by rw [f 111 (by decide)]; exact Int.le_refl _) rfl (by rw [f 114 (by decide)]; exact Int.le_refl _) (f110 _ (by omega)) (f110 _ (by omega)) (fun j _ => by rw [f 112 (by decide), f 113 (by decide)]; exact ⟨rfl, rfl⟩) (fun a j x y _ => by rw [f a (by omega)])) s5⟩
  · rw [f 104 (by decide)]; exact a
  · unfold zKn; rw [f 104 (by decide), s6, s7]; exact a1
  · rw [f110 _ (by omega), s1]; exact b1
  · rw [s1]; exact z_at_c _ _ (fun j x y => f110 _ (by omega)) (z_at_c (g := I 110) _ _ (fun j x y => rfl) b2)
  · rw [s2]; exact z_at_c _ _ (fun j x y => f110 _ (by omega)) b3
  · rw [s3]; exact b4
  · rw [← g1, w_Ug, if_pos rfl, c1]
    split <;> split <;> first | rfl | omega
  · rw [← g2, w_Ug, if_pos rfl, c2]
    split <;> split <;> first | rfl | omega
  · rw [← g3, w_Ug, if_pos rfl, c3]
    split <;> split <;> first | rfl | omega
  · rw [f110 _ (by omega), s5]; exact c4
  · rw [f110 _ (by omega)]; exact d1
  · rw [f110 _ (by omega)]; exact d2
  · rw [f110 _ (by omega)]; exact d3
  · rw [f110 _ (by omega)]; exact d4
  · rw [f 111 (by decide), f 114 (by decide)]; exact ⟨e1, e2⟩
/-- code is new -/
theorem zK_x {I' : w_I} {c q h' : Int} (hz : zK I J P M h S) (h111 : I 111 1 = c) (h114 : I 114 1 = q) (f : w_fr (p88 c q) I I') (e7 : I' 104 7 = h') (c1 : c ≤ I' 111 1 ∧ I' 111 1 ≤ h') (q1 : q ≤ I' 114 1 ∧ 3 * I' 114 1 ≤ h') : zK I' J P M h' S := by
  obtain ⟨a, a1, b0, c0, d0, ⟨e1, e2⟩, g1, g2⟩ := hz
  have f110 : I' 110 = I 110 := p88_a f (by decide) (by decide) (by decide) (by decide) (by decide) (by decide) (by decide)
  have f4 : ∀ k, k ≠ 7 → k ≠ 26 → k ≠ 28 → k ≠ 29 → I' 104 k = I 104 k := fun k x y z u => p88_4 f x y z u
  refine ⟨⟨e7, ?_⟩, ?_, ?_, ?_, ?_, ?_, fun w x y => zKw_o (g1 w x y) h111 c1.1 (by rw [f110]) (by rw [f110]) (fun j x => p88_c f x), fun r x => zKu_o (g2 r x) h111 c1.1 h114 q1.1 (by rw [f110]) (by rw [f110]) (fun j x => p88_c f x) (fun a j x y z => p88_q f z ⟨x, y⟩)⟩
  · rw [f4 8 (by decide) (by decide) (by decide) (by decide), f4 9 (by decide) (by decide) (by decide) (by decide)]; exact a.2
  · unfold zKn; rw [f4 10 (by decide) (by decide) (by decide) (by decide), f4 11 (by decide) (by decide) (by decide) (by decide)]; exact a1
  · rw [f110]; exact b0
  · rw [f110]; exact c0
  · rw [f110]; exact d0
  · omega
/-- a law -/
theorem zK_l {w c0 e : Int} {C : List Int} (hz : zK I J P M h S) (hw : 0 ≤ w ∧ w < 4) (hc : 0 ≤ c0 ∧ e = c0 + C.length ∧ e ≤ I 111 1) (ro : z_ro (I 112) (I 113) (500 + c0) C) (ls : (q_sd S).length ≤ 24) (lg : (q_gd S).length ≤ 24) : zK (w_U (w_U I 110 (700 + (11 + 2 * w)) c0) 110 (700 + (11 + 2 * w + 1)) e) J P M h (z_alw w C S) := by
  obtain ⟨a, a1, ⟨b1, b2, b3, b4⟩, ⟨c1, c2, c3, c4⟩, ⟨d1, d2, d3, d4⟩, ⟨e1, e2⟩, p1, p2⟩ := hz
  have f : ∀ a, a ≠ 110 → (w_U (w_U I 110 (700 + (11 + 2 * w)) c0) 110 (700 + (11 + 2 * w + 1)) e) a = I a := fun a x => by rw [w_Ua x, w_Ua x]
  have f110 : ∀ k, k ≠ 700 + (11 + 2 * w) → k ≠ 700 + (11 + 2 * w + 1) → (w_U (w_U I 110 (700 + (11 + 2 * w)) c0) 110 (700 + (11 + 2 * w + 1)) e) 110 k = I 110 k := fun k x y => by rw [w_Ug, if_pos rfl, if_neg y, w_Ug, if_pos rfl, if_neg x]
  have n1 : (w_U (w_U I 110 (700 + (11 + 2 * w)) c0) 110 (700 + (11 + 2 * w + 1)) e) 110 (700 + (11 + 2 * w)) = c0 := by rw [w_Ug, if_pos rfl, if_neg (by omega), w_Ug, if_pos rfl, if_pos rfl]
  have n2 : (w_U (w_U I 110 (700 + (11 + 2 * w)) c0) 110 (700 + (11 + 2 * w + 1)) e) 110 (700 + (11 + 2 * w + 1)) = e := by rw [w_Ug, if_pos rfl, if_pos rfl]
  generalize (w_U (w_U I 110 (700 + (11 + 2 * w)) c0) 110 (700 + (11 + 2 * w + 1)) e) = I1 at f f110 n1 n2
  refine ⟨?_, ?_, ⟨?_, ?_, ?_, b4⟩, ⟨?_, ?_, ?_, ?_⟩, ⟨?_, ?_, ?_, ?_⟩, ?_, fun w' x y => ?_, fun r x => zKu_s (zKu_o (p2 r x) rfl (by rw [f 111 (by decide)]; exact Int.le_refl _) rfl (by rw [f 114 (by decide)]; exact Int.le_refl _) (f110 _ (by omega) (by omega)) (f110 _ (by omega) (by omega)) (fun j _ => by rw [f 112 (by decide), f 113 (by decide)]; exact ⟨rfl, rfl⟩) (fun a j x y _ => by rw [f a (by omega)])) rfl⟩
  · rw [f 104 (by decide)]; exact a
  · unfold zKn; rw [f 104 (by decide)]; exact a1
  · rw [f110 _ (by omega) (by omega)]; exact b1
  · exact z_at_c _ _ (fun j x (y : j < 720 + ((q_sd S).length : Int)) => f110 _ (by omega) (by omega)) b2
  · exact z_at_c _ _ (fun j x (y : j < 750 + ((q_gd S).length : Int)) => f110 _ (by omega) (by omega)) b3
  · rw [f110 _ (by omega) (by omega)]; exact c1
  · rw [f110 _ (by omega) (by omega)]; exact c2
  · rw [f110 _ (by omega) (by omega)]; exact c3
  · rw [f110 _ (by omega) (by omega)]; exact c4
  · rw [f110 _ (by omega) (by omega)]; exact d1
  · rw [f110 _ (by omega) (by omega)]; exact d2
  · rw [f110 _ (by omega) (by omega)]; exact d3
  · rw [f110 _ (by omega) (by omega)]; exact d4
  · rw [f 111 (by decide), f 114 (by decide)]; exact ⟨e1, e2⟩
  · by_cases e3 : w' = w
    · subst e3
      have ed : q_lw (z_alw w' C S) w' = some C := if_pos rfl
      refine ⟨fun z => (by rw [ed] at z; cases z), fun C' z => ?_⟩
      rw [ed] at z
      have z := Option.some.inj z
      subst z
      rw [n1, n2, f 111 (by decide), f 112 (by decide), f 113 (by decide)]
      exact ⟨hc.1, hc.2.1, hc.2.2, ro⟩
    · have ed : q_lw (z_alw w C S) w' = q_lw S w' := if_neg e3
      unfold zKw
      rw [ed]
      exact zKw_o (p1 w' x y) rfl (by rw [f 111 (by decide)]; exact Int.le_refl _) (f110 _ (by omega) (by omega)) (f110 _ (by omega) (by omega)) (fun j _ => by rw [f 112 (by decide), f 113 (by decide)]; exact ⟨rfl, rfl⟩)
/-- a rule -/
theorem zK_r {r q0 e : Int} {L : List z_L} (hz : zK I J P M h S) (hr : (q_ru S).length = r ∧ r < 6) (hc : 0 ≤ q0 ∧ e = q0 + L.length ∧ e ≤ I 114 1) (ro : zLs I q0 0 L) (ls : (q_sd S).length ≤ 24) (lg : (q_gd S).length ≤ 24) : zK (w_U (w_U (w_U I 110 (700 + (80 + 2 * r)) q0) 110 (700 + (80 + 2 * r + 1)) e) 110 704 (r + 1)) J P M h (z_aru L S) := by
  obtain ⟨a, a1, ⟨b1, b2, b3, b4⟩, ⟨c1, c2, c3, c4⟩, ⟨d1, d2, d3, d4⟩, ⟨e1, e2⟩, p1, p2⟩ := hz
  have f : ∀ a, a ≠ 110 → (w_U (w_U (w_U I 110 (700 + (80 + 2 * r)) q0) 110 (700 + (80 + 2 * r + 1)) e) 110 704 (r + 1)) a = I a := fun a x => by rw [w_Ua x, w_Ua x, w_Ua x]
  have f110 : ∀ k, k ≠ 704 → k ≠ 700 + (80 + 2 * r) → k ≠ 700 + (80 + 2 * r + 1) → (w_U (w_U (w_U I 110 (700 + (80 + 2 * r)) q0) 110 (700 + (80 + 2 * r + 1)) e) 110 704 (r + 1)) 110 k = I 110 k := fun k z x y => by rw [w_Ug, if_pos rfl, if_neg z, w_Ug, if_pos rfl, if_neg y, w_Ug, if_pos rfl, if_neg x]
  have n1 : (w_U (w_U (w_U I 110 (700 + (80 + 2 * r)) q0) 110 (700 + (80 + 2 * r + 1)) e) 110 704 (r + 1)) 110 (700 + (80 + 2 * r)) = q0 := by rw [w_Ug, if_pos rfl, if_neg (by omega), w_Ug, if_pos rfl, if_neg (by omega), w_Ug, if_pos rfl, if_pos rfl]
  have n2 : (w_U (w_U (w_U I 110 (700 + (80 + 2 * r)) q0) 110 (700 + (80 + 2 * r + 1)) e) 110 704 (r + 1)) 110 (700 + (80 + 2 * r + 1)) = e := by rw [w_Ug, if_pos rfl, if_neg (by omega), w_Ug, if_pos rfl, if_pos rfl]
  have n3 : (w_U (w_U (w_U I 110 (700 + (80 + 2 * r)) q0) 110 (700 + (80 + 2 * r + 1)) e) 110 704 (r + 1)) 110 704 = r + 1 := by rw [w_Ug, if_pos rfl, if_pos rfl]
  generalize (w_U (w_U (w_U I 110 (700 + (80 + 2 * r)) q0) 110 (700 + (80 + 2 * r + 1)) e) 110 704 (r + 1)) = I1 at f f110 n1 n2 n3
  have ff : ∀ (C : List z_L) (k o : Int), zLs I k o C → k + C.length ≤ I 114 1 → zLs I1 k o C := fun C k o z z2 => zLs_o rfl (by rw [f 111 (by decide)]; exact Int.le_refl _) (fun j _ => by rw [f 112 (by decide), f 113 (by decide)]; exact ⟨rfl, rfl⟩) (fun a j x y _ => by rw [f a (by omega)]) C k o z2 z
  refine ⟨?_, ?_, ⟨?_, ?_, ?_, b4⟩, ⟨?_, ?_, ?_, ?_⟩, ⟨?_, ?_, ?_, ?_⟩, ?_, fun w x y => zKw_s (zKw_o (p1 w x y) rfl (by rw [f 111 (by decide)]; exact Int.le_refl _) (f110 _ (by omega) (by omega) (by omega)) (f110 _ (by omega) (by omega) (by omega)) (fun j _ => by rw [f 112 (by decide), f 113 (by decide)]; exact ⟨rfl, rfl⟩)) rfl, fun r' x => ?_⟩
  · rw [f 104 (by decide)]; exact a
  · unfold zKn; rw [f 104 (by decide)]; exact a1
  · rw [f110 _ (by omega) (by omega) (by omega)]; exact b1
  · exact z_at_c _ _ (fun j x (y : j < 720 + ((q_sd S).length : Int)) => f110 _ (by omega) (by omega) (by omega)) b2
  · exact z_at_c _ _ (fun j x (y : j < 750 + ((q_gd S).length : Int)) => f110 _ (by omega) (by omega) (by omega)) b3
  · rw [f110 _ (by omega) (by omega) (by omega)]; exact c1
  · rw [f110 _ (by omega) (by omega) (by omega)]; exact c2
  · rw [f110 _ (by omega) (by omega) (by omega)]; exact c3
  · rw [n3]
    show _ = (((q_ru S ++ [L]).length : Nat) : Int)
    rw [List.length_append, ← hr.1]
    rfl
  · rw [f110 _ (by omega) (by omega) (by omega)]; exact d1
  · rw [f110 _ (by omega) (by omega) (by omega)]; exact d2
  · rw [f110 _ (by omega) (by omega) (by omega)]; exact d3
  · rw [f110 _ (by omega) (by omega) (by omega)]; exact d4
  · rw [f 111 (by decide), f 114 (by decide)]; exact ⟨e1, e2⟩
  · intro L' z
    have z : (q_ru S ++ [L])[r']? = some L' := z
    by_cases e3 : r' < (q_ru S).length
    · rw [List.getElem?_append_left e3] at z
      obtain ⟨y1, y2, y3, y4⟩ := p2 r' x L' z
      rw [f110 (700 + (80 + 2 * (r' : Int))) (by omega) (by omega) (by omega), f110 (700 + (80 + 2 * (r' : Int) + 1)) (by omega) (by omega) (by omega), f 114 (by decide)]
      exact ⟨y1, y2, y3, ff _ _ _ y4 (by omega)⟩
    · rw [List.getElem?_append_right (by omega)] at z
      have hrl : r' = (q_ru S).length := by
        have := (List.getElem?_eq_some_iff.mp z).1
        simp at this
        omega
      have hrr : (r' : Int) = r := by omega
      rw [hrl, Nat.sub_self] at z
      have z : some L = some L' := z
      have z := Option.some.inj z
      subst z
      rw [hrr, n1, n2, f 114 (by decide)]
      exact ⟨hc.1, hc.2.1, hc.2.2, ff _ _ _ ro (by omega)⟩
theorem s189 {k e v : Int} (he : 700 + k = e) (hb : 0 ≤ e ∧ e < 2800) (hv : I 110 e = v) (kk : Q (some (w_i v)) I J b) : w_C xs xl 189 [.ref 104, w_i k] I J b Q := by
  subst he
  refine e189 ?_
  refine b189_0 ?_
  try simp only [w_Ug, reduceIte, Nat.reduceEqDiff, Int.reduceEq, eq_self, hv]
  repeat' (first | apply And.intro | intro)
  all_goals (try first | omega | contradiction | exact Or.inl trivial | exact Or.inr trivial)
theorem s190 {k e v : Int} (he : 700 + k = e) (hb : 0 ≤ e ∧ e < 2800) (kk : Q none (w_U I 110 e v) J b) : w_C xs xl 190 [.ref 104, w_i k, w_i v] I J b Q := by
  subst he
  refine e190 ?_
  refine b190_0 ?_
  try simp only [w_Ug, reduceIte, Nat.reduceEqDiff, Int.reduceEq, eq_self, if_true]
  repeat' (first | apply And.intro | intro)
  all_goals (try first | omega | contradiction | exact Or.inl trivial | exact Or.inr trivial)
theorem s176 (hN : zN K V P N) (hT : zU I J K V P M N) {z i : Int} (hz : z = 3 ∨ z = 5) (hi : 0 ≤ i ∧ i ≤ N) (hl : zKn I P S) (ho : q_ln S ≠ 0 → 0 ≤ q_li S ∧ (q_li S < i ∨ (q_li S = i ∧ q_ln S ≤ z))) (k : ∀ I', (∀ a, a ≠ 104 → I' a = I a) → (∀ j, j ≠ 10 → j ≠ 11 → I' 104 j = I 104 j) → zKn I' P (z_nl z i S) → Q none I' J b) : w_C xs xl 176 [.ref 104, w_i z, w_i i] I J b Q := by
  have hNN := hN.1.2
  obtain ⟨l1, l2, l3⟩ := hl
  have t2 := (hT i hi.1 hi.2).2.1
  have pb := (hN.2.2.2.1 i hi.1 hi.2).2.2.1
  refine e176 ?_
  by_cases c : q_ln S = 0
  · have kk := k (w_U (w_U I 104 10 z) 104 11 (P i)) (fun a x => by rw [w_Ua x, w_Ua x]) (fun j x y => by rw [w_Ug, if_pos rfl, if_neg y, w_Ug, if_pos rfl, if_neg x]) (by
      unfold z_nl
      rw [if_pos c]
      refine ⟨Or.inr hz, by simp [w_Ug], fun _ => by simp [w_Ug]⟩)
    refine b176_0 ?_
    try simp only [w_Ug, reduceIte, Nat.reduceEqDiff, Int.reduceEq, eq_self, l2, t2]
    repeat' (first | apply And.intro | intro)
    all_goals (try first | omega | contradiction | exact Or.inl trivial | exact Or.inr trivial)
  · have kk := k I (fun a x => rfl) (fun j x y => rfl) (by
      unfold z_nl
      rw [if_neg c]
      exact ⟨l1, l2, l3⟩)
    have l3 := l3 c
    obtain ⟨o1, o2⟩ := ho c
    have pm : P (q_li S) ≤ P i ∧ (q_li S < i → P (q_li S) < P i) := by
      have h1 : q_li S < i → P (q_li S) < P i := fun x => hN.2.2.2.2 _ _ o1 x hi.2
      rcases o2 with x | x
      · exact ⟨Int.le_of_lt (h1 x), h1⟩
      · rw [x.1]
        exact ⟨Int.le_refl _, fun x => by omega⟩
    have pq := (hN.2.2.2.1 (q_li S) o1 (by omega)).2.2.1
    refine b176_0 ?_
    try simp only [w_Ug, reduceIte, Nat.reduceEqDiff, Int.reduceEq, eq_self, l2, t2, l3]
    repeat' (first | apply And.intro | intro)
    all_goals (try first | omega | contradiction | exact Or.inl trivial | exact Or.inr trivial)
def p81 (a : Nat) (k : Int) : Bool := a == 104 && (k == 7 || k == 10 || k == 11 || k == 25)
theorem p81_V {I I' : w_I} (f : w_fr p81 I I') : w_fr pzV I I' := w_frm f (fun a k e => by
  unfold pzV pzY at e
  unfold p81
  simp only [Bool.or_eq_false_iff, Bool.and_eq_false_iff, decide_eq_false_iff_not, beq_eq_false_iff_ne, ne_eq] at e ⊢
  obtain ⟨e0, ⟨⟨⟨⟨e1, e2⟩, e3⟩, e4⟩, e5⟩, e6⟩ := e
  rcases e1 with x | x
  · exact Or.inl x
  · exact Or.inr (by omega))
theorem p81_r {I I' : w_I} (f : w_fr p81 I I') : zFr I I' := ⟨p81_V f, zB1_e (w_frA f (fun _ => rfl))⟩
theorem p81_a {I I' : w_I} (f : w_fr p81 I I') {a : Nat} (h : a ≠ 104) : I' a = I a := w_frA f (fun k => by unfold p81; simp [h])
theorem s181 (hN : zN K V P N) (hT : zU I J K V P M N) (hz : zK I J P M h S) (hh : 0 ≤ h ∧ h ≤ N) (hql : q_ln S ≠ 0 → 0 ≤ q_li S ∧ q_li S < h) {lo hi : Int} (hlo : 0 ≤ lo ∧ lo ≤ hi ∧ hi < 10000) (k1 : K h = 3 → ¬ 400 ≤ h → ∀ I', w_fr p81 I I' → zK I' J P M (h + 1) (if V h < lo ∨ hi < V h then z_nl 5 h S else S) → I' 104 25 = V h → Q (some (w_i 1)) I' J b) (k0 : ¬ K h = 3 → ∀ I', zE I I' 1 (P h) → Q (some (w_i 0)) I' J b) (k2 : K h = 3 → 400 ≤ h → ∀ I', zE I I' 2 (P h) → Q (some (w_i 0)) I' J b) : w_C xs xl 181 [.ref 104, w_i lo, w_i hi] I J b Q := by
  have hNN := hN.1.2
  obtain ⟨e7, e8⟩ := hz.1
  have kb := hN.2.2.2.1 h hh.1 hh.2
  have vb := kb.2.1
  obtain ⟨t1, t2, t3, t4, t5⟩ := hT h hh.1 hh.2
  refine e181 (b181_0 ?_)
  rw [e7]
  refine s180 hT hNN e7 hh kb.1 (kk := 3) ⟨by decide, Or.inr rfl⟩ (fun c x => ?_) (fun c I' f => ?_) (fun c x I' f => ?_)
  · have t3 := t3 c
    have z1 : zK (w_U (w_U I 104 7 (h + 1)) 104 25 (V h)) J P M (h + 1) S := zK_4 hz zSl_r (fun a x => by rw [w_Ua x, w_Ua x]) (by simp [w_Ug]) (by simp [w_Ug]; exact e8) ⟨hz.2.1.1, by simp [w_Ug]; exact hz.2.1.2.1, by simp [w_Ug]; exact hz.2.1.2.2⟩ (by omega)
    have f1 : w_fr p81 I (w_U (w_U I 104 7 (h + 1)) 104 25 (V h)) := w_frU (w_frU w_frr rfl) rfl
    have e25 : (w_U (w_U I 104 7 (h + 1)) 104 25 (V h)) 104 25 = V h := by simp [w_Ug]
    by_cases cb : V h < lo ∨ hi < V h
    · simp only [if_pos cb] at k1
      have fin : w_C xs xl 176 [.ref 104, w_i 5, w_i h] (w_U (w_U I 104 7 (h + 1)) 104 25 (V h)) J b (fun v Ic Jc bc => w_T xs xl 181 47 [some (.ref 104), some (w_i lo), some (w_i hi), some (w_i h)] [] (w_pv v []) Ic Jc bc Q) := by
        generalize (w_U (w_U I 104 7 (h + 1)) 104 25 (V h)) = I1 at z1 f1 e25
        have hT1 : zU I1 J K V P M N := zU_f hT (p81_a f1 (by decide)) (p81_a f1 (by decide)) (p81_a f1 (by decide))
        refine s176 hN hT1 (Or.inr rfl) hh z1.2.1 (fun y => ⟨(hql y).1, Or.inl (hql y).2⟩) (fun I2 g1 g2 g3 => b181_47 (k1 c (by omega) I2 (fun a k e => ?_) (zK_4 z1 zSl_nl g1 (by rw [g2 7 (by decide) (by decide)]; exact z1.1.1) (by rw [g2 8 (by decide) (by decide), g2 9 (by decide) (by decide)]; exact z1.1.2) g3 (Int.le_refl _)) (by rw [g2 25 (by decide) (by decide)]; exact e25)))
        unfold p81 at e
        by_cases ea : a = 104
        · subst ea
          simp at e
          rw [g2 k (by omega) (by omega)]
          exact f1 104 k (by unfold p81; simp; omega)
        · rw [g1 a ea, p81_a f1 ea]
      refine b181_10 ?_
      try simp only [w_Ug, reduceIte, Nat.reduceEqDiff, Int.reduceEq, eq_self, t3]
      repeat' (first | apply And.intro | intro)
      all_goals (try first | omega | contradiction | exact Or.inl trivial | exact Or.inr trivial)
    · simp only [if_neg cb] at k1
      have kk := k1 c (by omega) _ f1 z1 e25
      refine b181_10 ?_
      try simp only [w_Ug, reduceIte, Nat.reduceEqDiff, Int.reduceEq, eq_self, t3]
      repeat' (first | apply And.intro | intro)
      all_goals (try first | omega | contradiction | exact Or.inl trivial | exact Or.inr trivial)
  · have kk := k0 c I' f
    refine b181_10 ?_
    try simp only [w_Ug, reduceIte, Nat.reduceEqDiff, Int.reduceEq, eq_self, if_true]
    repeat' (first | apply And.intro | intro)
    all_goals (try first | omega | contradiction | exact Or.inl trivial | exact Or.inr trivial)
  · have kk := k2 c x I' f
    refine b181_10 ?_
    try simp only [w_Ug, reduceIte, Nat.reduceEqDiff, Int.reduceEq, eq_self, if_true]
    repeat' (first | apply And.intro | intro)
    all_goals (try first | omega | contradiction | exact Or.inl trivial | exact Or.inr trivial)
end
