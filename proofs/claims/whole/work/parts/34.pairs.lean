section
variable {L : Nat} {xs : Nat → Int32} {A V : Nat → Nat → Int32} {K : Nat → Option Nat} {T : am_H}
theorem erase_sk (x w n : Int32) (e : Nat) (he : e < 1080) (v : Option Int32) (h' : am_H) (k : ∀ u : Option Int32, am_fin [(z_L_erase, 25, [.ref 1, .int x, .int w, .int n, .int (nI (e + 1)), dl u], [])] (hp L xs A V K T) v h') : ∀ (r d : Nat) (u : Option Int32), d + r = e + 1 → (∀ i, d ≤ i → i ≤ e → A 4 i = x → ¬ beg (A 4) i) → am_fin [(z_L_erase, 25, [.ref 1, .int x, .int w, .int n, .int (nI d), dl u], [])] (hp L xs A V K T) v h' := by
  intro r
  induction r with
  | zero =>
    intro d u hd _
    have hd : d = e + 1 := by omega
    subst hd
    exact k u
  | succ r ih =>
    intro d u hd hi
    have hd' : d < 1080 := by omega
    have i1 := ih (d + 1) u (by omega) (fun i p1 p2 => hi i (by omega) p2)
    rw [← nI_1] at i1
    have hc := P_landOn_3_c (L := L) (xs := xs) (A := A) (V := V) (K := K) (T := T) d hd'
    have hs := P_startsStay_3_c (L := L) (xs := xs) (A := A) (V := V) (K := K) (T := T) d hd'
    by_cases hx : A 4 d = x
    · have n0 : b2 (beg (A 4) d) = 0 := by unfold b2; rw [if_neg (hi d (by omega) (by omega) hx)]
      cases u
      · exact sg_L_erase_25 (iteN (l1080 hd') (am_fin.call hc (sg_L_erase_45r (iteP hx (am_fin.call hs (sg_L_erase_61r (iteP n0 i1)))))))
      · exact sg_L_erase_25b (iteN (l1080 hd') (am_fin.call hc (sg_L_erase_45rb (iteP hx (am_fin.call hs (sg_L_erase_61rb (iteP n0 i1)))))))
    · cases u
      · exact sg_L_erase_25 (iteN (l1080 hd') (am_fin.call hc (sg_L_erase_45r (iteN hx i1))))
      · exact sg_L_erase_25b (iteN (l1080 hd') (am_fin.call hc (sg_L_erase_45rb (iteN hx i1))))
end
