/-! the reference's settling: what is said of an area; the same of the class (by program) -/
def exW (C S : Nat → Nat → Int32) (sea : Bool) (X : Nat → Bool) (a : Nat) : Nat → Int32
  | 0 => if uu S a = true then (if mv S a = true then (if X a = true then 1 else 2) else if spg S a = true then (if gvn C S sea X a = true then 3 else 4) else 5) else 0
  | 1 => if disl S X a = true then 1 else 0
  | 2 => if uu S a = true then nI (str C S sea X a) else 0
  | 3 => if mv S a = true then nI (att C S sea X a) else 0
  | 4 => if mv S a = true then (if X a = true then 0 else if pth C S sea X a = true then (if rsi C S sea X a < att C S sea X a then 3 else 2) else 1) else 0
  | _ => if (pth C S sea X a && !dm C S a) = true then 1 else 0
theorem exV_eq {C S L J : Nat → Nat → Int32} {o : Int32} {sea : Bool} (hk : LK C S L) (ho : okO S) (w : WJ C S sea o J) {a v : Nat} (ha : a < 16) (hv : v < 6) : exV L J a v = exW C S sea (bt o) a v := by
  have hu : bt (L 0 0) a = uu S a := by rw [hk.u (by omega)]; simp [ha]
  have hm : bt (L 1 0) a = mv S a := by rw [hk.m (by omega)]; simp [ha]
  have hd : bt (L 2 0) a = dm C S a := by rw [hk.d (by omega)]; simp [ha]
  have hs : bt (L 4 0) a = spg S a := by rw [hk.sp (by omega)]; simp [ha]
  have hp : bt (J 2 0) a = pth C S sea (bt o) a := by rw [w.2.1 a (by omega)]; simp [ha]
  have hg : bt (J 3 0) a = gvn C S sea (bt o) a := by rw [w.2.2.1 a (by omega)]; simp [ha]
  have hi : bt (J 6 0) a = disl S (bt o) a := by rw [w.2.2.2 a (by omega)]; simp [ha]
  have h5 : J 5 0 = o := w.1
  rcases (show v = 0 ∨ v = 1 ∨ v = 2 ∨ v = 3 ∨ v = 4 ∨ v = 5 by omega) with e | e | e | e | e | e <;> subst e
  · show jSum L J a = _
    unfold jSum
    rw [hu, hm, hs, hg, h5]; rfl
  · show (if bt (J 6 0) a = true then (1 : Int32) else 0) = _
    rw [hi]; rfl
  · show (if bt (L 0 0) a = true then jStr L J a else 0) = _
    rw [hu, jStr_eq hk w ha]; rfl
  · show (if bt (L 1 0) a = true then jAtt L J a else 0) = if mv S a = true then nI (att C S sea (bt o) a) else 0
    rw [hm]
    cases h : mv S a
    · rfl
    · rw [if_pos rfl, if_pos rfl, jAtt_eq hk ho w ha h]
  · show (if bt (L 1 0) a = true then (if bt (J 5 0) a = true then (0 : Int32) else jRsn L J a) else 0) = if mv S a = true then (if bt o a = true then (0 : Int32) else if pth C S sea (bt o) a = true then (if rsi C S sea (bt o) a < att C S sea (bt o) a then 3 else 2) else 1) else 0
    rw [hm, h5]
    cases h : mv S a
    · rfl
    · rw [if_pos rfl, if_pos rfl]
      unfold jRsn
      rw [hp, jAtt_eq hk ho w ha h, jRes_eq hk ho w ha h]
      have b1 := att_le (C := C) (S := S) (sea := sea) (X := bt o) (a := a)
      have b2 := rsi_le (C := C) (S := S) (sea := sea) (X := bt o) (a := a)
      have e : (if nI (att C S sea (bt o) a) ≤ nI (rsi C S sea (bt o) a) then (2 : Int32) else 3) = if rsi C S sea (bt o) a < att C S sea (bt o) a then 3 else 2 := by
        by_cases q : rsi C S sea (bt o) a < att C S sea (bt o) a
        · rw [if_pos q, if_neg (fun x => by have := (nI_leI (by omega) (by omega)).mp x; omega)]
        · rw [if_neg q, if_pos ((nI_leI (by omega) (by omega)).mpr (by omega))]
      rw [e]
  · show (if bt (J 2 0 &&& (L 2 0 ^^^ (-1 : Int32))) a = true then (1 : Int32) else 0) = _
    rw [b_and, b_not (by omega), hp, hd]; rfl
section
variable {G : osG} {z : osS} {N m n a : Nat} {C S M : Nat → Nat → Int32} {D : Nat → Nat → Int64} {sea : Bool}
end
