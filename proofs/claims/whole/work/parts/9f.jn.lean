section
/-! reading, both: what is told is the same -/
variable {xs : Nat → Int32} {xl : Nat} {I J : w_I} {b : Bool} {Q : Option Value → w_I → w_I → Bool → Prop}
variable {s : Int → Int} {S : z_S} {F : m_F}
theorem z_at_m {g : Int → Int} : ∀ (C : List Int) (k : Int), z_at g k C → ∀ i : Int, 0 ≤ i → i < C.length → g (k + i) ∈ C
  | [], k, _, i, x, y => by have : (([] : List Int).length : Int) = 0 := rfl; omega
  | c :: r, k, ⟨h1, h2⟩, i, x, y => by
    have hl := z_len c r
    by_cases e : i = 0
    · subst e
      rw [Int.add_zero, h1]
      simp
    · have := z_at_m r (k + 1) h2 (i - 1) (by omega) (by omega)
      rw [show k + 1 + (i - 1) = k + i by omega] at this
      exact List.mem_cons_of_mem _ this
theorem zFs_k : ∀ (L : List z_L) (k o : Int), zFs F k o L → (∀ l ∈ L, z_lok l) → ∀ i, k ≤ i → i < k + L.length → m_lok F i ∧ (o ≤ m_lr F i ∧ m_lr F i ≤ o + L.length) ∧ (i + 1 < k + L.length → m_lr F i ≤ m_lr F (i + 1))
  | [], k, o, _, _, i, x, y => by have : (([] : List z_L).length : Int) = 0 := rfl; omega
  | l :: r, k, o, ⟨h1, h2⟩, hl, i, x, y => by
    have hn := z_lenL l r
    have lr' : ∀ l ∈ r, z_lok l := fun y hy => hl y (by simp [hy])
    have ob : o ≤ (if z_ha r = 1 then o else o + 1) ∧ (if z_ha r = 1 then o else o + 1) ≤ o + 1 := by split <;> omega
    by_cases e : i = k
    · subst e
      refine ⟨zFi_ok h1 (hl l (by simp)), by rw [h1.1.2.2]; omega, fun z => ?_⟩
      have hr : r ≠ [] := fun e => by
        subst e
        have : (([] : List z_L).length : Int) = 0 := rfl
        omega
      rw [h1.1.2.2, zFs_h h2 hr]
      exact ob.1
    · obtain ⟨a, b, c⟩ := zFs_k r (k + 1) _ h2 lr' i (by omega) (by omega)
      exact ⟨a, by omega, fun z => c (by omega)⟩
theorem jn_wf (e : zEd F s S) (v : zV2 S) (hl : q_ln S = 0) (q : (q_gd S).length = (q_sd S).length ∧ (q_sd S).length ≤ 24 ∧ (q_ru S).length ≤ 6) : m_wf s := by
  obtain ⟨⟨e1, e2, e3⟩, ⟨e4, e5, e6, e7⟩, ⟨e8, e9, e10, e11⟩, -, -⟩ := e
  obtain ⟨v1, v2, v3, v4, v5, v6, v7, v8⟩ := v
  have v4 := v4.2 hl
  have v5 := v5.2 hl
  refine ⟨⟨⟨by omega, by omega, by omega, by omega, by omega, by omega, by omega, by omega, by omega⟩, fun h x y => ?_, fun p x y => by omega, fun f x y => by omega, fun m x y => by omega⟩, fun p hp => ?_, fun f hf => ?_, fun f g hf => ?_⟩
  · have a := v2 _ (z_at_m _ _ e2 h x (by omega))
    have c := (v3 _ (z_at_m _ _ e3 h x (by omega))).2 hl
    have c' := (v3 _ (z_at_m _ _ e3 h x (by omega))).1
    exact ⟨by omega, c'.1, c⟩
  · have := hp.2.1
    have := hp.1
    omega
  · have := hf.2.1
    have := hf.1
    omega
  · have := hf.2.1
    have := hf.1
    omega
theorem jn_rf (e : zEd F s S) (f : I 20 13 = 0 ∧ I 20 14 = 0 ∧ I 20 15 = 0 ∧ I 20 16 = 0) (g : ∀ j, 0 ≤ j → j < 24 → I 30 j = -1) : c_rf 20 I s := by
  obtain ⟨-, -, ⟨e8, e9, e10, e11⟩, -, -⟩ := e
  refine ⟨by omega, by omega, by omega, by omega, fun p x y => by omega, fun p x y => by omega, fun h x y => ⟨fun _ f hf => ?_, fun z => absurd (g h x y) z⟩, fun m x y => by omega⟩
  have := hf.2.1
  have := hf.1
  omega
theorem jn_rt (e : zEd F s S) (d : zD I S) (q : (q_gd S).length = (q_sd S).length) : c_rt I s := by
  obtain ⟨⟨e1, e2, e3⟩, ⟨e4, e5, e6, e7⟩, -, -, -⟩ := e
  obtain ⟨⟨d1, d2, d3⟩, ⟨d4, d5, d6, d7⟩, -, -⟩ := d
  refine ⟨by omega, by omega, by omega, by omega, by omega, fun h x y => ?_⟩
  have a := z_at_2 _ _ _ d2 e2 h x (by omega)
  have c := z_at_2 _ _ _ d3 e3 h x (by omega)
  rw [Int.zero_add] at a c
  exact ⟨a, c⟩
theorem jn_cd (e : zEd F s S) (d : zD I S) (v : zV2 S) (q : (q_ru S).length ≤ 6) : c_cd (I 5) (I 6) (I 7) F s := by
  obtain ⟨-, ⟨-, -, -, e7⟩, -, e12, e13⟩ := e
  obtain ⟨-, -, d8, d9⟩ := d
  obtain ⟨-, -, -, -, -, -, v7, v8⟩ := v
  refine ⟨fun w x y => ?_, fun r x y => ?_⟩
  · obtain ⟨a1, a2, a3, a4⟩ := d8 w x y
    obtain ⟨b1, b2⟩ := e12 w x y
    cases hC : q_lw S w with
    | none =>
      rw [hC] at a2 a4
      have l1 : (((z_dw none w).length : Nat) : Int) = 1 := rfl
      exact ⟨a1, by omega, a3, Or.inl ⟨b1 hC, by omega, a4.1⟩⟩
    | some C =>
      rw [hC] at a2 a4
      obtain ⟨c1, c2, c3, c4⟩ := b2 C hC
      have hd := v7 w C hC
      have a2 : I 7 w = I 6 w + C.length := a2
      have a4 : z_at (I 5) (I 6 w) C := a4
      refine ⟨a1, by omega, a3, Or.inr ⟨c1, z_seg c4 hd c1 c2 (by omega), by omega, fun i p r => ?_⟩⟩
      exact z_at_2 _ _ _ a4 (z_ro_m C _ 0 1 hd c4).1 i p (by omega)
  · obtain ⟨r', hr⟩ : ∃ r' : Nat, (r' : Int) = r := ⟨r.toNat, by omega⟩
    subst hr
    have hlt : r' < (q_ru S).length := by omega
    obtain ⟨L, hL⟩ : ∃ L, (q_ru S)[r']? = some L := ⟨_, List.getElem?_eq_getElem hlt⟩
    obtain ⟨a1, a2, a3, a4⟩ := d9 r' L hL
    obtain ⟨b1, b2, b3, b4⟩ := e13 r' L (by omega) hL
    obtain ⟨u1, u2, u3⟩ := v8 L (List.mem_of_getElem? hL)
    have hk := zFs_k L _ 0 b4 u3
    have lp : 1 ≤ (L.length : Int) := by
      cases L with
      | nil => exact absurd rfl u1
      | cons l r => have := z_lenL l r; omega
    have h0 : m_lr F (s (80 + 2 * (r' : Int))) = 0 := by
      cases L with
      | nil => exact absurd rfl u1
      | cons l r => exact b4.1.1.2.2
    refine ⟨a1, by omega, a3, b1, by omega, b3, fun k p r => ?_, fun k p r => ?_, ?_⟩
    · obtain ⟨g1, g2, g3⟩ := hk k p (by omega)
      exact ⟨g1, by omega, by rw [h0]; exact g2.1⟩
    · exact (hk k p (by omega)).2.2 (by omega)
    · rw [show (s (80 + 2 * (r' : Int) + 1) - s (80 + 2 * (r' : Int))).toNat = L.length by omega]
      refine r_rel_z h0 L _ 0 _ _ 0 b4 u3 (Int.le_refl _) (Int.le_refl _) (fun _ => ?_) ⟨⟨fun x => by omega, fun x => absurd rfl x⟩, Or.inl rfl⟩ a4 a2
      rw [u2]
      exact ⟨fun z => by have := z.1; omega, fun z => by omega⟩
end
