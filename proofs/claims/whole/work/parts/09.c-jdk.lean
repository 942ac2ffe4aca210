theorem dJ6_bitCount_0f7a4_0 : decode cJ6_bitCount_0f7a4 0 = .ok (.iload_n 0, 1) := by decide +kernel
theorem dJ6_bitCount_0f7a4_1 : decode cJ6_bitCount_0f7a4 1 = .ok (.iload_n 0, 1) := by decide +kernel
theorem dJ6_bitCount_0f7a4_2 : decode cJ6_bitCount_0f7a4 2 = .ok (.iconst 1, 1) := by decide +kernel
theorem dJ6_bitCount_0f7a4_3 : decode cJ6_bitCount_0f7a4 3 = .ok (.iushr, 1) := by decide +kernel
theorem dJ6_bitCount_0f7a4_4 : decode cJ6_bitCount_0f7a4 4 = .ok (.ldc_w 265, 3) := by decide +kernel
theorem dJ6_bitCount_0f7a4_7 : decode cJ6_bitCount_0f7a4 7 = .ok (.iand, 1) := by decide +kernel
theorem dJ6_bitCount_0f7a4_8 : decode cJ6_bitCount_0f7a4 8 = .ok (.isub, 1) := by decide +kernel
theorem dJ6_bitCount_0f7a4_9 : decode cJ6_bitCount_0f7a4 9 = .ok (.istore_n 0, 1) := by decide +kernel
theorem dJ6_bitCount_0f7a4_10 : decode cJ6_bitCount_0f7a4 10 = .ok (.iload_n 0, 1) := by decide +kernel
theorem dJ6_bitCount_0f7a4_11 : decode cJ6_bitCount_0f7a4 11 = .ok (.ldc_w 266, 3) := by decide +kernel
theorem dJ6_bitCount_0f7a4_14 : decode cJ6_bitCount_0f7a4 14 = .ok (.iand, 1) := by decide +kernel
theorem dJ6_bitCount_0f7a4_15 : decode cJ6_bitCount_0f7a4 15 = .ok (.iload_n 0, 1) := by decide +kernel
theorem dJ6_bitCount_0f7a4_16 : decode cJ6_bitCount_0f7a4 16 = .ok (.iconst 2, 1) := by decide +kernel
theorem dJ6_bitCount_0f7a4_17 : decode cJ6_bitCount_0f7a4 17 = .ok (.iushr, 1) := by decide +kernel
theorem dJ6_bitCount_0f7a4_18 : decode cJ6_bitCount_0f7a4 18 = .ok (.ldc_w 266, 3) := by decide +kernel
theorem dJ6_bitCount_0f7a4_21 : decode cJ6_bitCount_0f7a4 21 = .ok (.iand, 1) := by decide +kernel
theorem dJ6_bitCount_0f7a4_22 : decode cJ6_bitCount_0f7a4 22 = .ok (.iadd, 1) := by decide +kernel
theorem dJ6_bitCount_0f7a4_23 : decode cJ6_bitCount_0f7a4 23 = .ok (.istore_n 0, 1) := by decide +kernel
theorem dJ6_bitCount_0f7a4_24 : decode cJ6_bitCount_0f7a4 24 = .ok (.iload_n 0, 1) := by decide +kernel
theorem dJ6_bitCount_0f7a4_25 : decode cJ6_bitCount_0f7a4 25 = .ok (.iload_n 0, 1) := by decide +kernel
theorem dJ6_bitCount_0f7a4_26 : decode cJ6_bitCount_0f7a4 26 = .ok (.iconst 4, 1) := by decide +kernel
theorem dJ6_bitCount_0f7a4_27 : decode cJ6_bitCount_0f7a4 27 = .ok (.iushr, 1) := by decide +kernel
theorem dJ6_bitCount_0f7a4_28 : decode cJ6_bitCount_0f7a4 28 = .ok (.iadd, 1) := by decide +kernel
theorem dJ6_bitCount_0f7a4_29 : decode cJ6_bitCount_0f7a4 29 = .ok (.ldc_w 267, 3) := by decide +kernel
theorem dJ6_bitCount_0f7a4_32 : decode cJ6_bitCount_0f7a4 32 = .ok (.iand, 1) := by decide +kernel
theorem dJ6_bitCount_0f7a4_33 : decode cJ6_bitCount_0f7a4 33 = .ok (.istore_n 0, 1) := by decide +kernel
theorem dJ6_bitCount_0f7a4_34 : decode cJ6_bitCount_0f7a4 34 = .ok (.iload_n 0, 1) := by decide +kernel
theorem dJ6_bitCount_0f7a4_35 : decode cJ6_bitCount_0f7a4 35 = .ok (.iload_n 0, 1) := by decide +kernel
theorem dJ6_bitCount_0f7a4_36 : decode cJ6_bitCount_0f7a4 36 = .ok (.bipush 8, 2) := by decide +kernel
theorem dJ6_bitCount_0f7a4_38 : decode cJ6_bitCount_0f7a4 38 = .ok (.iushr, 1) := by decide +kernel
theorem dJ6_bitCount_0f7a4_39 : decode cJ6_bitCount_0f7a4 39 = .ok (.iadd, 1) := by decide +kernel
theorem dJ6_bitCount_0f7a4_40 : decode cJ6_bitCount_0f7a4 40 = .ok (.istore_n 0, 1) := by decide +kernel
theorem dJ6_bitCount_0f7a4_41 : decode cJ6_bitCount_0f7a4 41 = .ok (.iload_n 0, 1) := by decide +kernel
theorem dJ6_bitCount_0f7a4_42 : decode cJ6_bitCount_0f7a4 42 = .ok (.iload_n 0, 1) := by decide +kernel
theorem dJ6_bitCount_0f7a4_43 : decode cJ6_bitCount_0f7a4 43 = .ok (.bipush 16, 2) := by decide +kernel
theorem dJ6_bitCount_0f7a4_45 : decode cJ6_bitCount_0f7a4 45 = .ok (.iushr, 1) := by decide +kernel
theorem dJ6_bitCount_0f7a4_46 : decode cJ6_bitCount_0f7a4 46 = .ok (.iadd, 1) := by decide +kernel
theorem dJ6_bitCount_0f7a4_47 : decode cJ6_bitCount_0f7a4 47 = .ok (.istore_n 0, 1) := by decide +kernel
theorem dJ6_bitCount_0f7a4_48 : decode cJ6_bitCount_0f7a4 48 = .ok (.iload_n 0, 1) := by decide +kernel
theorem dJ6_bitCount_0f7a4_49 : decode cJ6_bitCount_0f7a4 49 = .ok (.bipush 63, 2) := by decide +kernel
theorem dJ6_bitCount_0f7a4_51 : decode cJ6_bitCount_0f7a4 51 = .ok (.iand, 1) := by decide +kernel
theorem dJ6_bitCount_0f7a4_52 : decode cJ6_bitCount_0f7a4 52 = .ok (.ireturn, 1) := by decide +kernel
theorem dJ7_fill_53178_0 : decode cJ7_fill_53178 0 = .ok (.iconst 0, 1) := by decide +kernel
theorem dJ7_fill_53178_1 : decode cJ7_fill_53178 1 = .ok (.istore_n 2, 1) := by decide +kernel
theorem dJ7_fill_53178_2 : decode cJ7_fill_53178 2 = .ok (.aload_n 0, 1) := by decide +kernel
theorem dJ7_fill_53178_3 : decode cJ7_fill_53178 3 = .ok (.arraylength, 1) := by decide +kernel
theorem dJ7_fill_53178_4 : decode cJ7_fill_53178 4 = .ok (.istore_n 3, 1) := by decide +kernel
theorem dJ7_fill_53178_5 : decode cJ7_fill_53178 5 = .ok (.iload_n 2, 1) := by decide +kernel
theorem dJ7_fill_53178_6 : decode cJ7_fill_53178 6 = .ok (.iload_n 3, 1) := by decide +kernel
theorem dJ7_fill_53178_7 : decode cJ7_fill_53178 7 = .ok (.if_icmp .ge 13, 3) := by decide +kernel
theorem dJ7_fill_53178_10 : decode cJ7_fill_53178 10 = .ok (.aload_n 0, 1) := by decide +kernel
theorem dJ7_fill_53178_11 : decode cJ7_fill_53178 11 = .ok (.iload_n 2, 1) := by decide +kernel
theorem dJ7_fill_53178_12 : decode cJ7_fill_53178 12 = .ok (.iload_n 1, 1) := by decide +kernel
theorem dJ7_fill_53178_13 : decode cJ7_fill_53178 13 = .ok (.iastore, 1) := by decide +kernel
theorem dJ7_fill_53178_14 : decode cJ7_fill_53178 14 = .ok (.iinc 2 1, 3) := by decide +kernel
theorem dJ7_fill_53178_17 : decode cJ7_fill_53178 17 = .ok (.goto (-12), 3) := by decide +kernel
theorem dJ7_fill_53178_20 : decode cJ7_fill_53178 20 = .ok (.return_, 1) := by decide +kernel
section JA
variable {own : String} {cc : ByteArray} {nL : Nat} {ret : Option FieldType} {nm : String} {fr lo n0 nf : Nat} {pc : Nat} {lv : List (Nat × Value)} {st : List Value} {n : Nat} {m : Mm} {r : Rr} {σ : Type} {o : Option σ} {k : σ → Option Res}
theorem J_alen (a N : Nat) (hd : decode cc pc = .ok (.arraylength, 1)) (hL : LAY a = (20, N)) (ha : a < n) (h : J own cc nL ret nm fr lo n0 nf (pc + 1) (lv) (.int (nI N) :: st) (n) (m) (r) (o) (k)) : J own cc nL ret nm fr lo n0 nf (pc) (lv) (.ref a :: st) (n) (m) (r) (o) (k) := by
  intro p l e R s mi args below meth c D base cid sa sv H locs ls x C hP hS hl hn hf hx
  obtain ⟨c1, c2, c3, c4, c5, c6, c7, c8, c9⟩ := id C
  exact va_alen (x := (N, .inl (m a))) (v := nI N) c1 c2 c8.1 hP a 0 (by rw [wsof_at ha, cell_arr hL (by decide) (by decide)]) (ty := .int) rfl rfl hd (h p l e R s mi args below meth c D base cid sa sv H locs ls x C hP hS hl hn hf hx)
end JA
theorem kc_J6_265 : Cond.constant RJ6 265 1431655765 ∈ TBg := tb 883 (by decide +kernel) rfl
theorem kc_J6_266 : Cond.constant RJ6 266 858993459 ∈ TBg := tb 884 (by decide +kernel) rfl
theorem kc_J6_267 : Cond.constant RJ6 267 252645135 ∈ TBg := tb 885 (by decide +kernel) rfl
set_option maxHeartbeats 4000000 in
set_option maxRecDepth 100000 in
theorem ct_J6_bitCount {n : Nat} (m : Mm) (r : Rr) (x : Int32) : Ct yJ6_bitCount_0f7a4 cJ6_bitCount_0f7a4 1 (some .int) 0 0 [.int x] n n m r (rP m r (f_J6_bitCount x)) := by
  refine Ct.ofP (own := RJ6) (nm := "bitCount") [(0, .int x)] (by decide) (Nat.le_of_ble_eq_true rfl) rfl rfl rfl ?_
  unfold f_J6_bitCount
  refine J_iload_n 0 0 _ dJ6_bitCount_0f7a4_0 rfl rfl ?_
  refine J_iload_n 0 0 _ dJ6_bitCount_0f7a4_1 rfl rfl ?_
  refine J_iconst 1 dJ6_bitCount_0f7a4_2 (by decide) ?_
  refine J_iushr dJ6_bitCount_0f7a4_3 ?_
  refine J_ldcw 1431655765 dJ6_bitCount_0f7a4_4 kc_J6_265 ?_
  refine J_iand dJ6_bitCount_0f7a4_7 ?_
  refine J_isub dJ6_bitCount_0f7a4_8 ?_
  refine J_istore_n 0 [(0, .int _)] dJ6_bitCount_0f7a4_9 rfl (by decide) rfl ?_
  refine J_iload_n 0 0 _ dJ6_bitCount_0f7a4_10 rfl rfl ?_
  refine J_ldcw 858993459 dJ6_bitCount_0f7a4_11 kc_J6_266 ?_
  refine J_iand dJ6_bitCount_0f7a4_14 ?_
  refine J_iload_n 0 0 _ dJ6_bitCount_0f7a4_15 rfl rfl ?_
  refine J_iconst 2 dJ6_bitCount_0f7a4_16 (by decide) ?_
  refine J_iushr dJ6_bitCount_0f7a4_17 ?_
  refine J_ldcw 858993459 dJ6_bitCount_0f7a4_18 kc_J6_266 ?_
  refine J_iand dJ6_bitCount_0f7a4_21 ?_
  refine J_iadd dJ6_bitCount_0f7a4_22 ?_
  refine J_istore_n 0 [(0, .int _)] dJ6_bitCount_0f7a4_23 rfl (by decide) rfl ?_
  refine J_iload_n 0 0 _ dJ6_bitCount_0f7a4_24 rfl rfl ?_
  refine J_iload_n 0 0 _ dJ6_bitCount_0f7a4_25 rfl rfl ?_
  refine J_iconst 4 dJ6_bitCount_0f7a4_26 (by decide) ?_
  refine J_iushr dJ6_bitCount_0f7a4_27 ?_
  refine J_iadd dJ6_bitCount_0f7a4_28 ?_
  refine J_ldcw 252645135 dJ6_bitCount_0f7a4_29 kc_J6_267 ?_
  refine J_iand dJ6_bitCount_0f7a4_32 ?_
  refine J_istore_n 0 [(0, .int _)] dJ6_bitCount_0f7a4_33 rfl (by decide) rfl ?_
  refine J_iload_n 0 0 _ dJ6_bitCount_0f7a4_34 rfl rfl ?_
  refine J_iload_n 0 0 _ dJ6_bitCount_0f7a4_35 rfl rfl ?_
  refine J_bipush 8 dJ6_bitCount_0f7a4_36 (by decide) ?_
  refine J_iushr dJ6_bitCount_0f7a4_38 ?_
  refine J_iadd dJ6_bitCount_0f7a4_39 ?_
  refine J_istore_n 0 [(0, .int _)] dJ6_bitCount_0f7a4_40 rfl (by decide) rfl ?_
  refine J_iload_n 0 0 _ dJ6_bitCount_0f7a4_41 rfl rfl ?_
  refine J_iload_n 0 0 _ dJ6_bitCount_0f7a4_42 rfl rfl ?_
  refine J_bipush 16 dJ6_bitCount_0f7a4_43 (by decide) ?_
  refine J_iushr dJ6_bitCount_0f7a4_45 ?_
  refine J_iadd dJ6_bitCount_0f7a4_46 ?_
  refine J_istore_n 0 [(0, .int _)] dJ6_bitCount_0f7a4_47 rfl (by decide) rfl ?_
  refine J_iload_n 0 0 _ dJ6_bitCount_0f7a4_48 rfl rfl ?_
  refine J_bipush 63 dJ6_bitCount_0f7a4_49 (by decide) ?_
  refine J_iand dJ6_bitCount_0f7a4_51 ?_
  exact J_iretP dJ6_bitCount_0f7a4_52 rfl rfl
def b_fill (a N : Nat) (v : Int32) (t : Int32 × Mm) : Option ((Int32 × Mm) ⊕ Mm) :=
  if nI N ≤ t.1 then some (Sum.inr t.2) else (ast t.2 a N t.1 v).bind fun m1 => some (Sum.inl (t.1 + 1, m1))
def fillTo (m : Mm) (a : Nat) (v : Int32) (i : Nat) : Mm := upA m a (fun j => if j < i then v else m a j)
theorem fillTo_0 (m : Mm) (a : Nat) (v : Int32) : fillTo m a v 0 = m := by
  funext b j
  by_cases hb : b = a
  · subst hb; simp [fillTo, upA]
  · simp [fillTo, upA, hb]
theorem fillTo_s (m : Mm) (a : Nat) (v : Int32) (i : Nat) : up2 (fillTo m a v i) a i v = fillTo m a v (i + 1) := by
  funext b j
  by_cases hb : b = a
  · subst hb
    simp only [up2, fillTo, upA, if_true, upd]
    by_cases hj : j = i
    · simp [hj]
    · by_cases h2 : j < i
      · simp [hj, h2, Nat.lt_succ_of_lt h2]
      · have h3 : ¬ j < i + 1 := by omega
        simp [hj, h2, h3]
  · simp [up2, fillTo, upA, hb]
theorem fill_iter (m : Mm) (a N : Nat) (v : Int32) (hN : N < 2 ^ 31) : ∀ (k i : Nat), i + k = N → iter (k + 1) (b_fill a N v) (nI i, fillTo m a v i) = some (fillTo m a v N) := by
  intro k
  induction k with
  | zero =>
    intro i hi
    have hi : i = N := by omega
    subst hi
    simp [iter, b_fill, Int32.le_refl]
  | succ k ih =>
    intro i hi
    have hlt : i < N := by omega
    rw [iter]
    have h1 : ¬ nI N ≤ nI i := nI_ge hlt hN
    have h2 : ¬ (nI i < 0 ∨ N ≤ (nI i).toNatClampNeg) := nI_in hlt hN
    simp only [b_fill, if_neg h1, ast, if_neg h2, Option.bind_some, Sum.elim_inl]
    rw [nI_clamp (by omega), fillTo_s, nI_1]
    exact ih (i + 1) (by omega)
theorem lay_size (k : Nat) : (LAY k).2 ≤ 512 := by
  by_cases hk : k < 135
  · exact (by decide +kernel : ∀ k, k < 135 → (LAY k).2 ≤ 512) k hk
  · rw [lay_out hk]; decide
set_option maxHeartbeats 4000000 in
set_option maxRecDepth 100000 in
theorem ct_J7_fill {n : Nat} (m : Mm) (r : Rr) (a N : Nat) (hL : LAY a = (20, N)) (ha : a < n) (v : Int32) : Ct yJ7_fill_53178 cJ7_fill_53178 4 none 0 0 [.ref a, .int v] n n m r (rV r (f_J7_fill m a N v)) := by
  have hN : N < 2 ^ 31 := by
    have := lay_size a
    rw [hL] at this
    simp only at this
    omega
  have e1 : f_J7_fill m a N v = (iter (N + 1) (b_fill a N v) (0, m)).bind fun z => some z := by
    have := fill_iter m a N v hN N 0 (by omega)
    rw [fillTo_0, nI_0] at this
    rw [this]
    rfl
  rw [e1]
  refine Ct.ofV (own := RJ7) (nm := "fill") [(0, .ref a), (1, .int v)] (by decide) (Nat.le_of_ble_eq_true rfl) rfl rfl rfl ?_
  refine J_iconst 0 dJ7_fill_53178_0 (by decide) ?_
  refine J_istore_n 2 [(2, .int 0), (0, .ref a), (1, .int v)] dJ7_fill_53178_1 rfl (by decide) rfl ?_
  refine J_aload_n 0 1 a dJ7_fill_53178_2 rfl rfl ?_
  refine J_alen a N dJ7_fill_53178_3 hL ha ?_
  refine J_istore_n 3 [(3, .int (nI N)), (2, .int 0), (0, .ref a), (1, .int v)] dJ7_fill_53178_4 rfl (by decide) rfl ?_
  refine J_lv [2, 3, 1, 0] rfl ?_
  refine J_loop (pc := 5) (fun t : Int32 × Mm => [(0, .ref a), (1, .int v), (2, .int t.1), (3, .int (nI N))]) (fun t => t.2) (fun _ => 20) (fun z => []) (fun _ => []) (fun z => z) ?_ (fun t k1 hB hX => ?_) (N + 1) (0, m)
  · refine fun z => ?_
    exact J_vretV dJ7_fill_53178_20 rfl rfl
  · unfold b_fill
    refine J_iload_n 2 2 t.1 dJ7_fill_53178_5 rfl rfl ?_
    refine J_iload_n 3 3 (nI N) dJ7_fill_53178_6 rfl rfl ?_
    refine J_icmp_ge 20 dJ7_fill_53178_7 (by decide) ?_ ?_
    · exact J_lv [] rfl (hX t.2)
    · refine J_aload_n 0 0 a dJ7_fill_53178_10 rfl rfl ?_
      refine J_iload_n 2 2 t.1 dJ7_fill_53178_11 rfl rfl ?_
      refine J_iload_n 1 1 v dJ7_fill_53178_12 rfl rfl ?_
      refine J_iast a N dJ7_fill_53178_13 hL ha (fun m1 => ?_)
      refine J_iinc 2 2 [(2, .int (t.1 + 1)), (0, .ref a), (1, .int v), (3, .int (nI N))] t.1 (t.1 + 1) dJ7_fill_53178_14 rfl rfl (by decide) rfl ?_
      refine J_goto 5 dJ7_fill_53178_17 (by decide) ?_
      exact J_lv [1, 2, 0, 3] rfl (hB (t.1 + 1, m1))
