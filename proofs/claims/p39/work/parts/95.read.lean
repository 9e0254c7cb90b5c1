/-! the face: the calls that read (2) (by program) -/
section
variable {C S M : Nat → Nat → Int32} {D : Nat → Nat → Int64} {n np T : Nat}
theorem psg_b (hm : cpM C M D n np) {a : Nat} (ha : a < 16) (o : Bool) : psg M a (b2i o) = bd C a (b2i o) := by
  obtain ⟨q1, q2, _⟩ := hm.2.1 a ha
  cases o
  · exact q1
  · exact q2
theorem wid_bt {f : Nat → Int32} {k : Nat} {s : Int32} {i : Nat} : bt (wid f k s) i = (bt s i || exn (fun c => bt s c && bt (f c) i) k) := by
  unfold wid
  exact bt_gath
theorem wid_psg (hm : cpM C M D n np) (o : Bool) {s : Int32} (hs : ∀ i, i < 32 → bt s i = true → i < n) : osit (stRW M s (b2i o)) 0 n s = wid (fun a => bd C a (b2i o)) 16 s := b_ext (fun i hi => by
  have h16 := hm.n16
  rw [wid_bt]
  have e : bt (osit (stRW M s (b2i o)) 0 n s) i = (bt s i || exn (fun c => bt s c && bt (psg M c (b2i o)) i) n) := bt_gath (P := bt s) (f := fun c => psg M c (b2i o)) (g0 := s) (i := i) (n := n)
  rw [e]
  congr 1
  rw [Bool.eq_iff_iff, exn_iff, exn_iff]
  constructor
  · rintro ⟨c, h1, h2⟩
    exact ⟨c, by omega, by rw [← psg_b hm (by omega) o]; exact h2⟩
  · rintro ⟨c, h1, h2⟩
    have h3 := h2
    rw [Bool.and_eq_true] at h3
    exact ⟨c, hs c (by omega) h3.1, by rw [psg_b hm h1 o]; exact h2⟩)
theorem wid_n (hm : cpM C M D n np) (o : Bool) {s : Int32} (hs : ∀ i, i < 32 → bt s i = true → i < n) : ∀ i, i < 32 → bt (wid (fun a => bd C a (b2i o)) 16 s) i = true → i < n := fun i hi h => by
  rw [wid_bt] at h
  cases h1 : bt s i
  · rw [h1, Bool.false_or] at h
    obtain ⟨c, hc, h2⟩ := exn_iff.mp h
    rw [Bool.and_eq_true] at h2
    refine (hm.2.2.2.2.2.1 c i hc hi ?_).2.1
    cases o
    · exact Or.inl h2.2
    · exact Or.inr h2.2
  · exact hs i hi h1
theorem homes_eq (hm : cpM C M D n np) {v : Int32} (hv : ¬ v = -1) : fb_ct (fun a => decide (M 1 (34 + a) = v)) n = fb_ct (fun i => decide (C 6 i = v)) 16 := by
  have h16 := hm.n16
  rw [fb_ct_cut (q := fun i => decide (C 6 i = v)) h16 (fun i h1 h2 => decide_eq_false (fun q => by
    have := (hm.2.2.2.2.2.2 i h2 (by rw [q]; exact hv)).1; omega))]
  exact fb_ct_cong (fun i hi => by rw [(hm.2.1 i (by omega)).2.2.1])
theorem rch_eq (hm : cpM C M D n np) (ht : cpT S (M 3)) (hj : stJ C S n np T) {i : Nat} (hi : i < 16) {v : Int32} (o : Bool) : fb_ct (cnR M i v o) n = fb_ct (carP C S i v o) 16 := by
  have h16 := hm.n16
  rw [fb_ct_cut (q := carP C S i v o) h16 (fun a h1 h2 => by
    cases hu : uu S a
    · unfold uu at hu
      unfold carP
      rw [hu]; rfl
    · have := (hj.u a h2 hu).1; omega)]
  refine fb_ct_cong (fun a ha => ?_)
  have ha16 : a < 16 := by omega
  unfold cnR carP
  rw [(ht.2.1 a ha16).2.1]
  cases hu : uu S a
  · unfold uu at hu
    rw [hu]; simp
  · have hk := (hj.u a ha16 hu).2.2
    have e7 : M 3 (37 + a) = S 7 a := ht.2.2.1 a ha16 hu
    have ep : bt (psg M a (M 3 (37 + a))) i = cg C S a i := by
      rw [e7]
      unfold cg
      rcases hk with e | e
      · rw [e, show psg M a 0 = bd C a 0 from psg_b hm ha16 false]; rfl
      · rw [e, show psg M a 1 = bd C a 1 from psg_b hm ha16 true]; rfl
    rw [ep]
    by_cases e : a = i
    · subst e
      have : cg C S a a = false := by
        cases q : cg C S a a
        · rfl
        · unfold cg at q
          rw [Bool.and_eq_true] at q
          have hb : bt (C 7 a) a = true ∨ bt (C 8 a) a = true := by
            rcases hk with e | e <;> rw [e] at q
            · exact Or.inl q.2
            · exact Or.inr q.2
          exact absurd rfl (hm.2.2.2.2.2.1 a a ha16 (by omega) hb).2.2
      rw [this]; simp
    · rw [decide_eq_false e]; rfl
end
