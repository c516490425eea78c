/-! The reference's tasks, one after the other: what an expression gives. -/
def wu (mt : Int → Int) (t : Tk) : Int := if t.1 = 1 then mt t.2.1 - t.2.1 else t.2.2.1 - t.2.1
def wt (mt : Int → Int) : List Tk → Int
  | [] => 0
  | t :: r => wu mt t + wt mt r
def muT (mt : Int → Int) (T : List Tk) : Int := 2 * wt mt T + T.length
def bdT (mt : Int → Int) (N : List Nd) (E : List Ed) (T : List Tk) : Prop := (N.length : Int) + wt mt T ≤ 101 ∧ (E.length : Int) + wt mt T ≤ 100 ∧ muT mt T ≤ 201
theorem wt_app {mt : Int → Int} : ∀ A B : List Tk, wt mt (A ++ B) = wt mt A + wt mt B
  | [], B => by
    show wt mt B = 0 + wt mt B
    omega
  | t :: A, B => by
    show wu mt t + wt mt (A ++ B) = wu mt t + wt mt A + wt mt B
    rw [wt_app A B]
    omega
theorem wt_w {mt : Int → Int} {w a b p j : Int} {T : List Tk} (h : ¬ w = 1) : wt mt ((w, a, b, p, j) :: T) = (b - a) + wt mt T := by
  show (if w = 1 then mt a - a else b - a) + wt mt T = _
  rw [if_neg h]
theorem wt_1 {mt : Int → Int} {a b p j : Int} {T : List Tk} : wt mt ((1, a, b, p, j) :: T) = (mt a - a) + wt mt T := rfl
theorem bd_w {mt : Int → Int} {N : List Nd} {E : List Ed} {w a b p j : Int} {T : List Tk} (h : ¬ w = 1) : bdT mt N E ((w, a, b, p, j) :: T) ↔ (N.length : Int) + (b - a) + wt mt T ≤ 101 ∧ (E.length : Int) + (b - a) + wt mt T ≤ 100 ∧ 2 * (b - a) + 2 * wt mt T + T.length + 1 ≤ 201 := by
  unfold bdT muT
  rw [wt_w h, List.length_cons]
  constructor
  · intro z; omega
  · intro z; omega
theorem bd_1 {mt : Int → Int} {N : List Nd} {E : List Ed} {a b p j : Int} {T : List Tk} : bdT mt N E ((1, a, b, p, j) :: T) ↔ (N.length : Int) + (mt a - a) + wt mt T ≤ 101 ∧ (E.length : Int) + (mt a - a) + wt mt T ≤ 100 ∧ 2 * (mt a - a) + 2 * wt mt T + T.length + 1 ≤ 201 := by
  unfold bdT muT
  rw [wt_1, List.length_cons]
  constructor
  · intro z; omega
  · intro z; omega
theorem gr_1 {N : List Nd} {k t p : Int} {F : List Nd} : bmp (gr N k t p) N.length 1 ++ F = bmp N p 1 ++ (k, t, 1) :: F := by
  unfold gr
  rw [bmp_q (by rw [bmp_len]), List.append_assoc]
  rfl
theorem gr_c {N : List Nd} {k t p c e : Int} {F X : List Nd} : bmp (bmp N p 1 ++ (k, t, c) :: F) N.length e ++ X = bmp N p 1 ++ (k, t, c + e) :: (F ++ X) := by
  rw [bmp_q (by rw [bmp_len]), List.append_assoc]
  rfl
section BIG
variable (Y : Int → Int64) (mt : Int → Int) (n : Int) (G : List Tk → List Nd → List Ed → Prop) (Fl : Prop)
def TV (E : List Ed) (D : List Dcl) (a b : Int) : Prop := ∀ x, a ≤ x → x < b → tyE n Y mt E x = isT D (Y x)
def GV : Prop := ∀ (a b p j : Int) (T : List Tk) (N : List Nd) (E : List Ed) (D : List Dcl), 0 ≤ a → a ≤ b → b ≤ n → Rch Y mt a b → TV Y mt n E D a b → 0 ≤ p → p < N.length → bdT mt N E ((5, a, b, p, j) :: T) → 0 ≤ wt mt T → (vst Y D mt a b p N = none → Fl) → (∀ q, vst Y D mt a b p N = some q → muT mt (q.1 ++ T) < muT mt ((5, a, b, p, j) :: T) ∧ G (q.1 ++ T) q.2 E) → G ((5, a, b, p, j) :: T) N E
def RV (D : List Dcl) (a b : Int) (o : Option (List Nd)) : Prop := (∀ N', o = some N' → (N'.length : Int) ≤ b - a ∧ ∀ (N : List Nd) (T : List Tk) (E : List Ed) (p j : Int), TV Y mt n E D a b → 0 ≤ p → p < N.length → bdT mt N E ((5, a, b, p, j) :: T) → 0 ≤ wt mt T → G T (bmp N p 1 ++ N') E → G ((5, a, b, p, j) :: T) N E) ∧ (o = none → Fl → ∀ (N : List Nd) (T : List Tk) (E : List Ed) (p j : Int), TV Y mt n E D a b → 0 ≤ p → p < N.length → bdT mt N E ((5, a, b, p, j) :: T) → 0 ≤ wt mt T → G ((5, a, b, p, j) :: T) N E)
def RL (D : List Dcl) (x y : Int) (l : List (Int × Int)) (o : Option (List Nd × Int)) : Prop := (wt mt (vtk 0 l) ≤ y - x ∧ wt mt (vtk 0 l) + l.length ≤ y - x + 1) ∧ 0 ≤ wt mt (vtk 0 l) ∧ (∀ r, o = some r → (r.1.length : Int) ≤ y - x ∧ ∀ (N : List Nd) (T : List Tk) (E : List Ed) (p : Int), TV Y mt n E D x y → 0 ≤ p → p < N.length → bdT mt N E (vtk p l ++ T) → 0 ≤ wt mt T → G T (bmp N p r.2 ++ r.1) E → G (vtk p l ++ T) N E) ∧ (o = none → Fl → ∀ (N : List Nd) (T : List Tk) (E : List Ed) (p : Int), TV Y mt n E D x y → 0 ≤ p → p < N.length → bdT mt N E (vtk p l ++ T) → 0 ≤ wt mt T → G (vtk p l ++ T) N E)
end BIG
section BG
variable {Y : Int → Int64} {mt : Int → Int} {n : Int} {G : List Tk → List Nd → List Ed → Prop} {Fl : Prop} {D : List Dcl}
theorem TV_s {E : List Ed} {a b x y : Int} (h : TV Y mt n E D a b) (h1 : a ≤ x) (h2 : y ≤ b) : TV Y mt n E D x y := fun z z0 z1 => h z (by omega) (by omega)
theorem wt_vtk {p : Int} : ∀ l : List (Int × Int), wt mt (vtk p l) = wt mt (vtk 0 l)
  | [] => rfl
  | q :: l => by
    show wt mt ((5, q.1, q.2, p, 0) :: vtk p l) = wt mt ((5, q.1, q.2, 0, 0) :: vtk 0 l)
    rw [wt_w (by decide), wt_w (by decide), wt_vtk l]
/-- arguments, one behind the other -/
theorem BA (hM : MTP Y n mt) (hn : n ≤ 100) {K : Int} (IH : ∀ a b : Int, b - a < K → 0 ≤ a → a ≤ b → b ≤ n → Rch Y mt a b → ∃ o, (∀ f : Nat, b - a < f → VE Y D mt f a b = o) ∧ RV Y mt n G Fl D a b o) : ∀ (k : Nat) (x y : Int), y - x < k → y - x < K → 0 ≤ x → x ≤ y → y ≤ n → Rch Y mt x y → ∃ l o, (∀ h : Nat, y - x < h → spv Y mt h x y = l) ∧ (∀ f g : Nat, y - x < f → y - x < g → VA Y mt (VE Y D mt f) g x y = o) ∧ RL Y mt n G Fl D x y l o
  | 0, x, y, h, _, _, xy, _, _ => by
    exfalso
    have : ((0 : Nat) : Int) = 0 := rfl
    omega
  | k + 1, x, y, hk, hK, x0, xy, yn, hr => by
    have sr := see_rch (w := 44) hM x0 yn hr
    generalize hs : see Y mt x y 44 = s at sr
    have s1 := sr.2.1
    have s2 := sr.2.2
    obtain ⟨o1, e1, r1⟩ := IH x s (by omega) x0 (by omega) (by omega) sr.1
    by_cases c : s < y
    · have h44 : Y s = 44 := by
        have := see_44 hM x0 yn hn (w := 44) (by rw [hs]; exact c)
        rw [hs] at this
        exact this
      have hr2 : Rch Y mt (s + 1) y := by
        obtain ⟨c1, hc1⟩ := sr.1
        have q := Rch_sp hM c1 x s y hc1 hr (by omega) x0 yn
        have q2 := Rch_nx q c
        rw [nx_p (by rw [h44]; decide)] at q2
        exact q2
      obtain ⟨l2, o2, e2, e3, r2⟩ := BA hM hn IH k (s + 1) y (by omega) (by omega) (by omega) (by omega) yn hr2
      refine ⟨(x, s) :: l2, o1.bind (fun N => o2.bind (fun r => some (N ++ r.1, 1 + r.2))), fun h hh => ?_, fun f g hf hg => ?_, ?_⟩
      · obtain ⟨h', rfl⟩ : ∃ h', h = h' + 1 := ⟨h - 1, by omega⟩
        rw [spv, hs, if_pos c, e2 h' (by omega)]
      · obtain ⟨g', rfl⟩ : ∃ g', g = g' + 1 := ⟨g - 1, by omega⟩
        rw [VA, hs, e1 f (by omega)]
        congr 1
        funext N
        rw [if_pos c, e3 f g' (by omega) (by omega)]
      · have hw : ∀ p : Int, wt mt (vtk p ((x, s) :: l2)) = (s - x) + wt mt (vtk 0 l2) := fun p => by
          show wt mt ((5, x, s, p, 0) :: vtk p l2) = _
          rw [wt_w (by decide), wt_vtk]
        have w1 := r2.1.1
        have w3 := r2.1.2
        have w2 := r2.2.1
        refine ⟨⟨by rw [hw]; omega, by rw [hw, List.length_cons]; omega⟩, by rw [hw]; omega, fun r hr9 => ?_, fun hr9 hF N T E p ht p0 p1 hb hW => ?_⟩
        · obtain ⟨N1, q1, q2⟩ := bind_some hr9
          obtain ⟨r', q3, q4⟩ := bind_some q2
          have a1 := r1.1 N1 q1
          have a2 := r2.2.2.1 r' q3
          have a11 := a1.1
          have a21 := a2.1
          cases q4
          refine ⟨by show ((N1 ++ r'.1).length : Int) ≤ _; rw [List.length_append]; omega, fun N T E p ht p0 p1 hb hW hG => ?_⟩
          have hb2 := (bd_w (T := vtk p l2 ++ T) (by decide : ¬ (5 : Int) = 1)).1 hb
          rw [wt_app, wt_vtk, List.length_append] at hb2
          refine a1.2 N (vtk p l2 ++ T) E p 0 (TV_s ht (Int.le_refl _) s1) p0 p1 hb (by rw [wt_app, wt_vtk]; omega) ?_
          refine a2.2 (bmp N p 1 ++ N1) T E p (TV_s ht (by omega) (Int.le_refl _)) p0 (by rw [List.length_append, bmp_len]; omega) ?_ hW ?_
          · unfold bdT muT
            rw [wt_app, wt_vtk, List.length_append, List.length_append, bmp_len]
            omega
          · rw [bmp_l (by rw [bmp_len]; exact p1), bmp_2, List.append_assoc]
            exact hG
        · have hb2 := (bd_w (T := vtk p l2 ++ T) (by decide : ¬ (5 : Int) = 1)).1 hb
          rw [wt_app, wt_vtk, List.length_append] at hb2
          cases q1 : o1 with
          | none => exact r1.2 q1 hF N (vtk p l2 ++ T) E p 0 (TV_s ht (Int.le_refl _) s1) p0 p1 hb (by rw [wt_app, wt_vtk]; omega)
          | some N1 =>
            rw [q1] at hr9
            have a1 := r1.1 N1 q1
            have a11 := a1.1
            cases q3 : o2 with
            | none =>
              refine a1.2 N (vtk p l2 ++ T) E p 0 (TV_s ht (Int.le_refl _) s1) p0 p1 hb (by rw [wt_app, wt_vtk]; omega) ?_
              refine r2.2.2.2 q3 hF (bmp N p 1 ++ N1) T E p (TV_s ht (by omega) (Int.le_refl _)) p0 (by rw [List.length_append, bmp_len]; omega) ?_ hW
              unfold bdT muT
              rw [wt_app, wt_vtk, List.length_append, List.length_append, bmp_len]
              omega
            | some r' =>
              rw [q3] at hr9
              exact nns hr9.symm
    · have es : s = y := by omega
      refine ⟨[(x, s)], o1.bind (fun N => some (N, 1)), fun h hh => ?_, fun f g hf hg => ?_, ?_⟩
      · obtain ⟨h', rfl⟩ : ∃ h', h = h' + 1 := ⟨h - 1, by omega⟩
        rw [spv, hs, if_neg c]
      · obtain ⟨g', rfl⟩ : ∃ g', g = g' + 1 := ⟨g - 1, by omega⟩
        rw [VA, hs, e1 f (by omega)]
        congr 1
        funext N
        rw [if_neg c]
      · have hw : wt mt (vtk 0 [(x, s)]) = (s - x) + 0 := wt_w (T := []) (by decide)
        refine ⟨⟨by rw [hw]; omega, by rw [hw, List.length_cons, List.length_nil]; omega⟩, by rw [hw]; omega, fun r hr9 => ?_, fun hr9 hF N T E p ht p0 p1 hb hW => ?_⟩
        · obtain ⟨N1, q1, q2⟩ := bind_some hr9
          have a1 := r1.1 N1 q1
          have a11 := a1.1
          cases q2
          exact ⟨by show (N1.length : Int) ≤ _; omega, fun N T E p ht p0 p1 hb hW hG => a1.2 N T E p 0 (TV_s ht (Int.le_refl _) s1) p0 p1 hb hW hG⟩
        · cases q1 : o1 with
          | none => exact r1.2 q1 hF N T E p 0 (TV_s ht (Int.le_refl _) s1) p0 p1 hb hW
          | some N1 =>
            rw [q1] at hr9
            exact nns hr9.symm
end BG
