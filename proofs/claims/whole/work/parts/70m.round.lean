/-! trades: a round of the reference, its rings -/
theorem c9_round79 {N d : Nat} {X : lt_X} {I : Nat → Nat → Int32} {J : Nat → Nat → Int64} {T : Nat → Nat} (hT : TM (I 140) T) (hw : WF T) {c : Nat → Nat} {L : Nat} (hc : cOK c L (T 2) (T 3)) (hI : I 135 30 = nI L) (hC : ∀ i, i < T 2 → I 144 i = nI (c i)) (hW : ∀ p k, p < T 2 → k < T 3 → I 143 (6 * p + k) = nI (wth T p k)) (hG : ∀ q, L.testBit q = true → I 145 q = nI 4294967295) (hN : 1000 ≤ N) : ∀ k i, i + k = T 2 → ∀ (K : Nat → Nat → Int32) (D : Nat → Prop), (∀ a, a ≠ 145 → K a = I a) → (∀ q, D q → L.testBit q = true ∧ ong (fL (wth T) c (T 2) L) q) → (∀ q, D q → D (fL (wth T) c (T 2) L q)) → (∀ q, D q → K 145 q = nI (c (fL (wth T) c (T 2) L q))) → (∀ q, ¬ D q → K 145 q = I 145 q) → (∀ q, q < i → L.testBit q = true → ong (fL (wth T) c (T 2) L) q → D q) → ∃ M, (∀ a, a ≠ 145 → M a = I a) ∧ (∀ q, L.testBit q = true → ong (fL (wth T) c (T 2) L) q → M 145 q = nI (c (fL (wth T) c (T 2) L q))) ∧ (∀ q, ¬ (L.testBit q = true ∧ ong (fL (wth T) c (T 2) L) q) → M 145 q = I 145 q) ∧ ∀ B R, ev (fun n => RX9_laysTrades_130 N (d + 2) n X (nI 0) M J) B R → ev (fun n => RX9_laysTrades_79 N (d + 2) n X (nI i) K J) (B + 1 + k) R := by
  obtain ⟨h0, h1, h2, h3, h4, h5, h6⟩ := hw.1
  have h65 : 2 ^ T 2 ≤ 2 ^ 6 := Nat.pow_le_pow_right (by omega) h2
  have hL := hc.1
  have hL6 : ∀ i, L.testBit i = true → i < 6 := fun i hi => by have := tb_lt hc.1 hi; omega
  have hf : ∀ i, L.testBit i = true → L.testBit (fL (wth T) c (T 2) L i) = true := fun i hi => (ptf_in hi (T 2)).1
  intro k
  induction k with
  | zero =>
    intro i hi K D a d1 d2 d3 d4 d5
    refine ⟨K, a, fun q q1 q2 => d3 q (d5 q (by have := tb_lt hL q1; omega) q1 q2), fun q hq => d4 q (fun h => hq (d1 q h)), fun B R e => ev_s (fun n => ?_) e⟩
    rw [sX9_laysTrades_79 N (d + 2) n, a 140 (by omega), tm2 hT, nc_nlt (by omega) (by omega)]
  | succ k ih =>
    intro i hi K D a d1 d2 d3 d4 d5
    have tK : TM (K 140) T := by rw [a 140 (by omega)]; exact hT
    have iK : K 135 30 = nI L := by rw [a 135 (by omega)]; exact hI
    have cK : ∀ j, j < T 2 → K 144 j = nI (c j) := fun j hj => by rw [a 144 (by omega)]; exact hC j hj
    have wK : ∀ p k, p < T 2 → k < T 3 → K 143 (6 * p + k) = nI (wth T p k) := fun p k x y => by rw [a 143 (by omega)]; exact hW p k x y
    by_cases q : L.testBit i = true
    rotate_left
    · obtain ⟨M, m1, m2, m3, m4⟩ := ih (i + 1) (by omega) K D a d1 d2 d3 d4 (fun u u1 u2 u3 => d5 u (by
        have : u ≠ i := fun e => q (by rw [← e]; exact u2)
        omega) u2 u3)
      refine ⟨M, m1, m2, m3, fun B R e => ev_le (ev_s (fun n => ?_) (m4 B R e)) (by omega)⟩
      rw [sX9_laysTrades_79 N (d + 2) n, tm2 tK, nc_lt (by omega) (by omega), iK, c9_has (by omega) (by omega), cI_some, kX9_laysTrades_2 N (d + 2) n, nc_10, if_neg q, nI_add]
    · have rf := c9_ringFrom (N := N) (d := d) (X := X) (I := K) (J := J) tK hw hc q iK cK wK hN
      have xo : ong (fL (wth T) c (T 2) L) (itr (fL (wth T) c (T 2) L) 6 i) := ong_6 (s := fun i => L.testBit i = true) hL6 hf q
      have xL : L.testBit (itr (fL (wth T) c (T 2) L) 6 i) = true := itr_in (s := fun i => L.testBit i = true) hf q 6
      have rf : am_G am_prog (N + 30) (d + 3) 312 [.ref 135, .int (nI i)] (mkh X K J) = some (.int (nI (itr (fL (wth T) c (T 2) L) 6 i)), mkh X K J) := rf
      have back : ong (fL (wth T) c (T 2) L) i → ∃ m, itr (fL (wth T) c (T 2) L) m (itr (fL (wth T) c (T 2) L) 6 i) = i := fun h => ong_back h 6
      generalize hx : itr (fL (wth T) c (T 2) L) 6 i = x at *
      have x6 := hL6 x xL
      by_cases dx : D x
      · have cl : ∀ m, D (itr (fL (wth T) c (T 2) L) m x) := itr_in d2 dx
        have cs := hc.2 _ (hf x xL)
        obtain ⟨M, m1, m2, m3, m4⟩ := ih (i + 1) (by omega) K D a d1 d2 d3 d4 (fun u u1 u2 u3 => by
          by_cases e : u = i
          · subst e
            obtain ⟨m, hm⟩ := back u3
            rw [← hm]; exact cl m
          · exact d5 u (by omega) u2 u3)
        refine ⟨M, m1, m2, m3, fun B R e => ev_le (ev_s (fun n => ?_) (m4 B R e)) (by omega)⟩
        rw [sX9_laysTrades_79 N (d + 2) n, tm2 tK, nc_lt (by omega) (by omega), iK, c9_has (by omega) (by omega), cI_some, kX9_laysTrades_2 N (d + 2) n, nc_10, if_pos q, rf, cI_some, kX9_laysTrades_3 N (d + 2) n, nc_in (by omega) (by omega), nI_clamp (by omega), d3 x dx, nc_nlt (by omega) (by omega), nI_add]
      · obtain ⟨Y, y1, y2, y3, y4⟩ := c9_goesRing (N := N) (d := d) (X := X) (I := K) (J := J) tK hw hc xL xo iK cK wK hN
        obtain ⟨M, m1, m2, m3, m4⟩ := ih (i + 1) (by omega) Y (fun u => D u ∨ ∃ m, itr (fL (wth T) c (T 2) L) m x = u) (fun b hb => by rw [y2 b hb, a b hb]) (fun u hu => by
          rcases hu with hu | ⟨m, hm⟩
          · exact d1 u hu
          · rw [← hm]
            exact ⟨itr_in (s := fun i => L.testBit i = true) hf xL m, itr_in (s := ong (fL (wth T) c (T 2) L)) (fun _ h => ong_f h) xo m⟩) (fun u hu => by
          rcases hu with hu | ⟨m, hm⟩
          · exact Or.inl (d2 u hu)
          · exact Or.inr ⟨m + 1, by rw [← hm]; rfl⟩) (fun u hu => by
          by_cases ex : ∃ m, itr (fL (wth T) c (T 2) L) m x = u
          · exact y3 u ex
          · rw [y4 u ex]
            rcases hu with hu | hu
            · exact d3 u hu
            · exact absurd hu ex) (fun u hu => by
          rw [y4 u (fun h => hu (Or.inr h))]
          exact d4 u (fun h => hu (Or.inl h))) (fun u u1 u2 u3 => by
          by_cases e : u = i
          · subst e; exact Or.inr (back u3)
          · exact Or.inl (d5 u (by omega) u2 u3))
        refine ⟨M, m1, m2, m3, fun B R e => ev_le (ev_s (fun n => ?_) (m4 B R e)) (by omega)⟩
        rw [sX9_laysTrades_79 N (d + 2) n, tm2 tK, nc_lt (by omega) (by omega), iK, c9_has (by omega) (by omega), cI_some, kX9_laysTrades_2 N (d + 2) n, nc_10, if_pos q, rf, cI_some, kX9_laysTrades_3 N (d + 2) n, nc_in (by omega) (by omega), nI_clamp (by omega), d4 x dx, hG x xL, nc_neg rfl, rf, cI_some, kX9_laysTrades_4 N (d + 2) n, y1, cV_some, kX9_laysTrades_5 N (d + 2) n, nI_add]
