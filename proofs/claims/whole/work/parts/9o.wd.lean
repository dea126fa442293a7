section
/-! the world at the law's entry -/
theorem st_arr {args : Array Value} {s : State} {ty : FieldType} (h : (Cond.arrayClass ty).before args s = true) : ∃ cA, ArrOfT s cA ty ∧ s.vm.findClass ("[" ++ ty.toString) = some cA := by
  obtain ⟨cA, kA, comp, h1, h2, h3⟩ := Cond.arrayClass_spec h
  exact ⟨cA, fun n z => ⟨fun k h => (by cases h), kA, h2, comp, h3⟩, h1⟩
theorem st_tb {s : State} {b : Nat} (hts : ∀ w ∈ lw_tbl, w.before #[Value.ref b] s = true) (i : Nat) (w : Cond) (h : lw_tbl[i]? = some w) : w.before #[Value.ref b] s = true := hts w (List.mem_of_getElem? h)
theorem st_G {p : Program} {s : State} {m : MethodId} {meth : Method} {c : Code} {b L : Nat} {xs : Nat → Int32} (C0 : lw_At p s m meth c b L xs) : ∃ sa sv fv D dA, x_G s.heap.size b L sa sv xs fv D dA s s.heap := by
  obtain ⟨hx, hb, hr, hml, hown, hts, hX, hbl, hlocks, hgv⟩ := id C0
  have hA : ∀ a : Nat, a < s.heap.size → ¬ s.heap.size ≤ a := fun a h => Nat.not_le.mpr h
  have hs := flat_of_before _ hgv
  obtain ⟨c0, i0, k0⟩ := u_known (C := "AgeHill$Folk") (T := x_T x_fl0) (N := 17) (n := 17) hts x_in0 (hts _ x_ins0)
  obtain ⟨c1, i1, k1⟩ := u_known (C := "AgeHill$Hill") (T := x_T x_fl1) (N := 8) (n := 8) hts x_in1 (hts _ x_ins1)
  obtain ⟨c2, i2, k2⟩ := u_known (C := "AgeHill$Least") (T := x_T x_fl2) (N := 6) (n := 6) hts x_in2 (hts _ x_ins2)
  obtain ⟨c3, i3, k3⟩ := u_known (C := "AgeHill$Lots") (T := x_T x_fl3) (N := 4) (n := 4) hts x_in3 (hts _ x_ins3)
  obtain ⟨c4, i4, k4⟩ := u_known (C := "AgeHill$Mornings") (T := x_T x_fl4) (N := 4) (n := 4) hts x_in4 (hts _ x_ins4)
  obtain ⟨c5, i5, k5⟩ := u_known (C := "AgeHill$Newcomers") (T := x_T x_fl5) (N := 6) (n := 6) hts x_in5 (hts _ x_ins5)
  obtain ⟨c6, i6, k6⟩ := u_known (C := "AgeHill$Reader") (T := x_T x_fl6) (N := 14) (n := 14) hts x_in6 (hts _ x_ins6)
  obtain ⟨c7, i7, k7⟩ := u_known (C := "AgeHill$Reckoner") (T := x_T x_fl7) (N := 4) (n := 4) hts x_in7 (hts _ x_ins7)
  obtain ⟨c8, i8, k8⟩ := u_known (C := "AgeHill$Text") (T := x_T x_fl8) (N := 11) (n := 11) hts x_in8 (hts _ x_ins8)
  obtain ⟨c9, i9, k9⟩ := u_known (C := "AgeHill$Tops") (T := x_T x_fl9) (N := 10) (n := 10) hts x_in9 (hts _ x_ins9)
  obtain ⟨c10, i10, k10⟩ := u_known (C := "AgeHill$Wishes") (T := x_T x_fl10) (N := 4) (n := 4) hts x_in10 (hts _ x_ins10)
  obtain ⟨c11, i11, k11⟩ := u_known (C := "AgeHill") (T := x_T x_fl11) (N := 16) (n := 16) hts x_in11 (hts _ x_ins11)
  obtain ⟨c12, i12, k12⟩ := u_known (C := "AgeHillModel") (T := x_T x_fl12) (N := 55) (n := 55) hts x_in12 (hts _ x_ins12)
  obtain ⟨a0, e0, g0⟩ := st_arr (st_tb hts 253 (Cond.arrayClass .int) (by decide +kernel))
  obtain ⟨a1, e1, g1⟩ := st_arr (st_tb hts 252 (Cond.arrayClass .byte) (by decide +kernel))
  obtain ⟨a2, e2, g2⟩ := st_arr (st_tb hts 442 (Cond.arrayClass .boolean) (by decide +kernel))
  obtain ⟨a3, e3, g3⟩ := st_arr (st_tb hts 1572 (Cond.arrayClass .long) (by decide +kernel))
  have ao := st_tb hts 418 (Cond.arrayOver (.object "AgeHill$Folk")) (by decide +kernel)
  obtain ⟨comp, a4, kA, f1, f2, f3, f4, f5⟩ := Cond.arrayOver_spec ao
  obtain ⟨adK, adV, vS, vE⟩ := vk_Sof (args := #[Value.ref b]) (s := s) (N := 1) (tm := fun _ => .string "AgeHill$Reader" 97) (len := [133]) (byt := [x_wb]) (A := fun q => s.heap.size ≤ q)
    (fun i hi => by have : i = 0 := by omega
                    subst this; decide)
    (fun i hi => hs _ (List.mem_of_getElem? (i := 9) (by decide +kernel)))
    (fun i hi => hs _ (List.mem_of_getElem? (i := 10) (by decide +kernel)))
    (fun i hi => hs _ (List.mem_of_getElem? (i := 11) (by decide +kernel)))
    (fun i hi => by
      have : i = 0 := by omega
      subst this
      exact hs _ (List.mem_of_getElem? (i := 12) (by decide +kernel)))
    (fun i hi j hj => by
      have : i = 0 := by omega
      subst this
      have hj : j < 133 := hj
      refine hs _ (List.mem_of_getElem? (i := 13 + j) ?_)
      revert j
      decide +kernel)
    (fun i j hi hj h => by omega) hA
  obtain ⟨v1, v2, v3, v4⟩ := vS.1 0 (by decide)
  have z1 : va_Z "java/lang/String" "COMPACT_STRINGS" "Z" (.int 1) (fun q => s.heap.size ≤ q) s s.heap := va_Zof (st_tb hts 763 (Cond.laysStatic "java/lang/String" "COMPACT_STRINGS" "Z") (by decide +kernel)) (st_tb hts 153 (Cond.initialized "java/lang/String") (by decide +kernel)) (Cond.eq_int (hs (Cond.eq (.static "java/lang/String" "COMPACT_STRINGS" "Z") (.int 1)) (List.mem_of_getElem? (i := 4) (by decide +kernel))) rfl) hA
  have z2 : va_Zq "jdk/internal/util/Preconditions" "SIOOBE_FORMATTER" "Ljava/util/function/BiFunction;" (fun q => s.heap.size ≤ q) s s.heap := va_Zqof (st_tb hts 779 (Cond.laysStatic "jdk/internal/util/Preconditions" "SIOOBE_FORMATTER" "Ljava/util/function/BiFunction;") (by decide +kernel)) (st_tb hts 155 (Cond.initialized "jdk/internal/util/Preconditions") (by decide +kernel)) (hs (Cond.isRef (.static "jdk/internal/util/Preconditions" "SIOOBE_FORMATTER" "Ljava/util/function/BiFunction;")) (List.mem_of_getElem? (i := 5) (by decide +kernel))) hA
  have zq : ∃ fv : Value, va_Z "jdk/internal/util/Preconditions" "SIOOBE_FORMATTER" "Ljava/util/function/BiFunction;" fv (fun q => s.heap.size ≤ q) s s.heap ∧ (fv = .null ∨ ∃ t : Nat, fv = .ref t) := by
    rcases z2 with z | ⟨t, z⟩
    · exact ⟨_, z, Or.inl rfl⟩
    · exact ⟨_, z, Or.inr ⟨t, rfl⟩⟩
  obtain ⟨fv, z3, z4⟩ := zq
  refine ⟨adK 0, adV 0, fv, (fun k => ([c0, c1, c2, c3, c4, c5, c6, c7, c8, c9, c10, c11, c12] : List ClassId).getD k c0, fun k => ([i0, i1, i2, i3, i4, i5, i6, i7, i8, i9, i10, i11, i12] : List (Nat → Nat)).getD k i0), (fun k => ([a0, a1, a2, a3, a4] : List ClassId).getD k a0), ⟨fun k q hq => ?_, fun k q hq => ?_⟩, hX, hbl, vk_R.of (st_tb hts 753 (Cond.stringRef "AgeHill$Reader" 97 x_tx) (by decide +kernel)) (vE 0 (by decide)), v1, v2, v3, v4, z1, z3, z4, va_AO.of ao, fun w hw hn => ?_⟩
  · match k, hq with
    | 0, hq => cases hq; exact k0
    | 1, hq => cases hq; exact k1
    | 2, hq => cases hq; exact k2
    | 3, hq => cases hq; exact k3
    | 4, hq => cases hq; exact k4
    | 5, hq => cases hq; exact k5
    | 6, hq => cases hq; exact k6
    | 7, hq => cases hq; exact k7
    | 8, hq => cases hq; exact k8
    | 9, hq => cases hq; exact k9
    | 10, hq => cases hq; exact k10
    | 11, hq => cases hq; exact k11
    | 12, hq => cases hq; exact k12
    | k + 13, hq => simp at hq
  · match k, hq with
    | 0, hq => cases hq; exact ⟨e0, g0⟩
    | 1, hq => cases hq; exact ⟨e1, g1⟩
    | 2, hq => cases hq; exact ⟨e2, g2⟩
    | 3, hq => cases hq; exact ⟨e3, g3⟩
    | 4, hq => cases hq; exact ⟨fun n z => ⟨fun k h => (by cases h), kA, f3, comp, f4⟩, kA, comp, f3, f4, f1, f5⟩
    | k + 5, hq => simp at hq
  · cases w <;> first | exact va_Nw.of rfl (hts _ hw) | cases hn
end
