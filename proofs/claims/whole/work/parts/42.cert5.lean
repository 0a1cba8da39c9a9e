section Rock
variable {nv : Nat} {pe : Nat → Nat} {w : Mem}
def R66 (S nv : Nat) (w : Mem) (R : Option (Nat → Nat)) (back q : Nat) (T T' : Nat → Int32) (c : Nat) : Prop :=
  (∀ B, R = some B → (∀ u, u < nv → tb S u = true → T' u = nI (B u)) ∧ ∀ n, f8_findCertain_66 (nI S) (n + c + 1) (nI q) (sA w 32 32 T) = some (nI 1, sA w 32 32 T')) ∧
  (R = none → (∀ u, u < nv → tb S u = true → (u < back → T' u = T u) ∧ (back ≤ u → T' u = -1)) ∧ ∀ n, f8_findCertain_66 (nI S) (n + c) (nI q) (sA w 32 32 T) = f8_findCertain_66 (nI S) n (nI (bf S back) + (-1)) (sA w 32 32 T'))
theorem q66 (h : PW nv pe w) {S v E : Nat} {f : (Nat → Nat) → Option (Nat → Nat)} (hS : S < 256) (hv : v < nv) (hb : tb S v = true) {A : Nat → Nat} (hE : 1 ≤ E)
    (hk : ∀ A T, (∀ u, u < v + 1 → tb S u = true → A u < 9 ∧ T u = nI (A u)) → (∀ u, v + 1 ≤ u → u < nv → tb S u = true → T u = -1) → ∃ c T', c ≤ E ∧ R66 S nv w (f A) (v + 1) (nx S nv (nv - (v + 1)) (v + 1)) T T' c) :
    ∀ j o T, o + j = pe v → T v = nI o + (-1) → (∀ u, u < v → tb S u = true → A u < 9 ∧ T u = nI (A u)) → (∀ u, v + 1 ≤ u → u < nv → tb S u = true → T u = -1) → ∃ c T', c ≤ j * (1 + E) + 1 ∧ R66 S nv w (tr f (fun o => okf pe S v o A v 0) A v j o) v v T T' c := by
  have hp9 := (h.2.2 v hv).2.1
  intro j
  induction j with
  | zero =>
    intro o T ho hT hA hU
    obtain rfl : o = pe v := by omega
    refine ⟨1, upd T v (-1), by omega, fun B hB => (by cases hB), fun _ => ⟨fun u hu hu2 => ⟨fun hz => upd_n (by omega), fun hz => ?_⟩, fun n => s66_last h hS hv hT n⟩⟩
    by_cases hz2 : u = v
    · subst hz2; exact upd_s ..
    · rw [upd_n hz2]; exact hU u (by omega) hu hu2
  | succ j ih =>
    intro o T ho hT hA hU
    have st := s66_try h hS hv (show o < pe v by omega) hT hA
    have hT1 : (upd T v (nI o)) v = nI (o + 1) + (-1) := by rw [upd_s, pk_m1]
    have hA1 : ∀ u, u < v → tb S u = true → A u < 9 ∧ (upd T v (nI o)) u = nI (A u) := fun u hu hu2 => by rw [upd_n (by omega)]; exact hA u hu hu2
    have hU1 : ∀ u, v + 1 ≤ u → u < nv → tb S u = true → (upd T v (nI o)) u = -1 := fun u hu hu2 hu3 => by rw [upd_n (by omega)]; exact hU u hu hu2 hu3
    rw [tr]
    cases hok : okf pe S v o A v 0 with
    | false =>
      obtain ⟨c, T', c1, c2, c3⟩ := ih (o + 1) (upd T v (nI o)) (by omega) hT1 hA1 hU1
      refine ⟨c + 1, T', by rw [Nat.succ_mul]; omega, ?_⟩
      simp only [Bool.false_eq_true, if_false]
      refine ⟨fun B hB => ⟨(c2 B hB).1, fun n => ?_⟩, fun hR => ⟨fun u hu hu2 => ⟨fun hz => ((c3 hR).1 u hu hu2).1 hz |>.trans (upd_n (by omega)), ((c3 hR).1 u hu hu2).2⟩, fun n => ?_⟩⟩
      · rw [show n + (c + 1) + 1 = (n + c + 1) + 1 by omega, st, hok, if_neg (by decide)]; exact (c2 B hB).2 n
      · rw [show n + (c + 1) = (n + c) + 1 by omega, st, hok, if_neg (by decide)]; exact (c3 hR).2 n
    | true =>
      obtain ⟨d, T1, d1, d2, d3⟩ := hk (uN A v o) (upd T v (nI o)) (fun u hu hu2 => by
        by_cases hz : u = v
        · subst hz; rw [uN_s, upd_s]; exact ⟨by omega, rfl⟩
        · rw [uN_n hz, upd_n hz]; exact hA u (by omega) hu2) hU1
      cases hf : f (uN A v o) with
      | some B0 =>
        refine ⟨d + 1, T1, by rw [Nat.succ_mul]; omega, ?_⟩
        simp only [if_true]
        refine ⟨fun B hB => ⟨(d2 B (hf.trans hB)).1, fun n => ?_⟩, fun hR => (by cases hR)⟩
        rw [show n + (d + 1) + 1 = (n + d + 1) + 1 by omega, st, hok, if_pos rfl]; exact (d2 B (hf.trans hB)).2 n
      | none =>
        have d4 := d3 hf
        have back : nI (bf S (v + 1)) + (-1) = nI v := by rw [bf, if_pos hb, pk_m1]
        have e1 : ∀ u, u < v + 1 → tb S u = true → T1 u = (upd T v (nI o)) u := fun u hu hu2 => (d4.1 u (by omega) hu2).1 hu
        obtain ⟨c, T', c1, c2, c3⟩ := ih (o + 1) T1 (by omega) ((e1 v (by omega) hb).trans hT1) (fun u hu hu2 => by rw [e1 u (by omega) hu2]; exact hA1 u hu hu2) (fun u hu hu2 hu3 => (d4.1 u hu2 hu3).2 hu)
        refine ⟨1 + d + c, T', by rw [Nat.succ_mul]; omega, ?_⟩
        simp only [if_true]
        refine ⟨fun B hB => ⟨(c2 B hB).1, fun n => ?_⟩, fun hR => ⟨fun u hu hu2 => ⟨fun hz => (((c3 hR).1 u hu hu2).1 hz).trans ((e1 u (by omega) hu2).trans (upd_n (by omega))), ((c3 hR).1 u hu hu2).2⟩, fun n => ?_⟩⟩
        · rw [show n + (1 + d + c) + 1 = ((n + c + 1) + d) + 1 by omega, st, hok, if_pos rfl, d4.2, back]; exact (c2 B hB).2 n
        · rw [show n + (1 + d + c) = ((n + c) + d) + 1 by omega, st, hok, if_pos rfl, d4.2, back]; exact (c3 hR).2 n
end Rock
