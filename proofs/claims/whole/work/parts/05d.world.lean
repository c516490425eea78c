/-! The world between calls: 305 cells of a fixed shape (class 0 .. 248, reference 249 .. 304); what may change in them is a state of functions. -/
def w_sh : List (Nat × Nat × Nat × List (Nat × Nat)) := [
  (0, 0, 0, [(0, 1), (0, 2), (0, 234), (1, 0), (1, 0)]),
  (3, 8, 3, []),
  (0, 6, 0, [(0, 3), (0, 198), (0, 201), (1, 0), (1, 0)]),
  (0, 2, 0, [(0, 4), (0, 30), (1, 0), (0, 33), (0, 36), (0, 39), (0, 42)]),
  (0, 4, 0, [(0, 5), (1, 0)]),
  (3, 6, 8, []),
  (0, 3, 0, [(2, 0), (1, 0), (1, 0), (0, 7), (1, 0), (0, 8)]),
  (2, 1, 3, []),
  (2, 1, 12, []),
  (0, 3, 0, [(2, 0), (1, 0), (1, 0), (0, 10), (1, 0), (0, 11)]),
  (2, 1, 3, []),
  (2, 1, 12, []),
  (0, 3, 0, [(2, 0), (1, 0), (1, 0), (0, 13), (1, 0), (0, 14)]),
  (2, 1, 3, []),
  (2, 1, 12, []),
  (0, 3, 0, [(2, 0), (1, 0), (1, 0), (0, 16), (1, 0), (0, 17)]),
  (2, 1, 3, []),
  (2, 1, 12, []),
  (0, 3, 0, [(2, 0), (1, 0), (1, 0), (0, 19), (1, 0), (0, 20)]),
  (2, 1, 3, []),
  (2, 1, 12, []),
  (0, 3, 0, [(2, 0), (1, 0), (1, 0), (0, 22), (1, 0), (0, 23)]),
  (2, 1, 3, []),
  (2, 1, 12, []),
  (0, 3, 0, [(2, 0), (1, 0), (1, 0), (0, 25), (1, 0), (0, 26)]),
  (2, 1, 3, []),
  (2, 1, 12, []),
  (0, 3, 0, [(2, 0), (1, 0), (1, 0), (0, 28), (1, 0), (0, 29)]),
  (2, 1, 3, []),
  (2, 1, 12, []),
  (0, 10, 0, [(0, 31), (0, 32), (1, 0)]),
  (2, 1, 100, []),
  (1, 0, 100, []),
  (0, 10, 0, [(0, 34), (0, 35), (1, 0)]),
  (2, 1, 1360, []),
  (1, 0, 1360, []),
  (0, 10, 0, [(0, 37), (0, 38), (1, 0)]),
  (2, 1, 1360, []),
  (1, 0, 1360, []),
  (0, 10, 0, [(0, 40), (0, 41), (1, 0)]),
  (2, 1, 480, []),
  (1, 0, 480, []),
  (3, 5, 31, []),
  (0, 1, 0, [(0, 44), (0, 45), (0, 46), (0, 47), (1, 0), (1, 0)]),
  (1, 0, 3, []),
  (1, 0, 3, []),
  (1, 0, 3, []),
  (1, 0, 3, []),
  (0, 1, 0, [(0, 49), (0, 50), (0, 51), (0, 52), (1, 0), (1, 0)]),
  (1, 0, 3, []),
  (1, 0, 3, []),
  (1, 0, 3, []),
  (1, 0, 3, []),
  (0, 1, 0, [(0, 54), (0, 55), (0, 56), (0, 57), (1, 0), (1, 0)]),
  (1, 0, 3, []),
  (1, 0, 3, []),
  (1, 0, 3, []),
  (1, 0, 3, []),
  (0, 1, 0, [(0, 59), (0, 60), (0, 61), (0, 62), (1, 0), (1, 0)]),
  (1, 0, 3, []),
  (1, 0, 3, []),
  (1, 0, 3, []),
  (1, 0, 3, []),
  (0, 1, 0, [(0, 64), (0, 65), (0, 66), (0, 67), (1, 0), (1, 0)]),
  (1, 0, 3, []),
  (1, 0, 3, []),
  (1, 0, 3, []),
  (1, 0, 3, []),
  (0, 1, 0, [(0, 69), (0, 70), (0, 71), (0, 72), (1, 0), (1, 0)]),
  (1, 0, 3, []),
  (1, 0, 3, []),
  (1, 0, 3, []),
  (1, 0, 3, []),
  (0, 1, 0, [(0, 74), (0, 75), (0, 76), (0, 77), (1, 0), (1, 0)]),
  (1, 0, 3, []),
  (1, 0, 3, []),
  (1, 0, 3, []),
  (1, 0, 3, []),
  (0, 1, 0, [(0, 79), (0, 80), (0, 81), (0, 82), (1, 0), (1, 0)]),
  (1, 0, 3, []),
  (1, 0, 3, []),
  (1, 0, 3, []),
  (1, 0, 3, []),
  (0, 1, 0, [(0, 84), (0, 85), (0, 86), (0, 87), (1, 0), (1, 0)]),
  (1, 0, 3, []),
  (1, 0, 3, []),
  (1, 0, 3, []),
  (1, 0, 3, []),
  (0, 1, 0, [(0, 89), (0, 90), (0, 91), (0, 92), (1, 0), (1, 0)]),
  (1, 0, 3, []),
  (1, 0, 3, []),
  (1, 0, 3, []),
  (1, 0, 3, []),
  (0, 1, 0, [(0, 94), (0, 95), (0, 96), (0, 97), (1, 0), (1, 0)]),
  (1, 0, 3, []),
  (1, 0, 3, []),
  (1, 0, 3, []),
  (1, 0, 3, []),
  (0, 1, 0, [(0, 99), (0, 100), (0, 101), (0, 102), (1, 0), (1, 0)]),
  (1, 0, 3, []),
  (1, 0, 3, []),
  (1, 0, 3, []),
  (1, 0, 3, []),
  (0, 1, 0, [(0, 104), (0, 105), (0, 106), (0, 107), (1, 0), (1, 0)]),
  (1, 0, 3, []),
  (1, 0, 3, []),
  (1, 0, 3, []),
  (1, 0, 3, []),
  (0, 1, 0, [(0, 109), (0, 110), (0, 111), (0, 112), (1, 0), (1, 0)]),
  (1, 0, 3, []),
  (1, 0, 3, []),
  (1, 0, 3, []),
  (1, 0, 3, []),
  (0, 1, 0, [(0, 114), (0, 115), (0, 116), (0, 117), (1, 0), (1, 0)]),
  (1, 0, 3, []),
  (1, 0, 3, []),
  (1, 0, 3, []),
  (1, 0, 3, []),
  (0, 1, 0, [(0, 119), (0, 120), (0, 121), (0, 122), (1, 0), (1, 0)]),
  (1, 0, 3, []),
  (1, 0, 3, []),
  (1, 0, 3, []),
  (1, 0, 3, []),
  (0, 1, 0, [(0, 124), (0, 125), (0, 126), (0, 127), (1, 0), (1, 0)]),
  (1, 0, 3, []),
  (1, 0, 3, []),
  (1, 0, 3, []),
  (1, 0, 3, []),
  (0, 1, 0, [(0, 129), (0, 130), (0, 131), (0, 132), (1, 0), (1, 0)]),
  (1, 0, 3, []),
  (1, 0, 3, []),
  (1, 0, 3, []),
  (1, 0, 3, []),
  (0, 1, 0, [(0, 134), (0, 135), (0, 136), (0, 137), (1, 0), (1, 0)]),
  (1, 0, 3, []),
  (1, 0, 3, []),
  (1, 0, 3, []),
  (1, 0, 3, []),
  (0, 1, 0, [(0, 139), (0, 140), (0, 141), (0, 142), (1, 0), (1, 0)]),
  (1, 0, 3, []),
  (1, 0, 3, []),
  (1, 0, 3, []),
  (1, 0, 3, []),
  (0, 1, 0, [(0, 144), (0, 145), (0, 146), (0, 147), (1, 0), (1, 0)]),
  (1, 0, 3, []),
  (1, 0, 3, []),
  (1, 0, 3, []),
  (1, 0, 3, []),
  (0, 1, 0, [(0, 149), (0, 150), (0, 151), (0, 152), (1, 0), (1, 0)]),
  (1, 0, 3, []),
  (1, 0, 3, []),
  (1, 0, 3, []),
  (1, 0, 3, []),
  (0, 1, 0, [(0, 154), (0, 155), (0, 156), (0, 157), (1, 0), (1, 0)]),
  (1, 0, 3, []),
  (1, 0, 3, []),
  (1, 0, 3, []),
  (1, 0, 3, []),
  (0, 1, 0, [(0, 159), (0, 160), (0, 161), (0, 162), (1, 0), (1, 0)]),
  (1, 0, 3, []),
  (1, 0, 3, []),
  (1, 0, 3, []),
  (1, 0, 3, []),
  (0, 1, 0, [(0, 164), (0, 165), (0, 166), (0, 167), (1, 0), (1, 0)]),
  (1, 0, 3, []),
  (1, 0, 3, []),
  (1, 0, 3, []),
  (1, 0, 3, []),
  (0, 1, 0, [(0, 169), (0, 170), (0, 171), (0, 172), (1, 0), (1, 0)]),
  (1, 0, 3, []),
  (1, 0, 3, []),
  (1, 0, 3, []),
  (1, 0, 3, []),
  (0, 1, 0, [(0, 174), (0, 175), (0, 176), (0, 177), (1, 0), (1, 0)]),
  (1, 0, 3, []),
  (1, 0, 3, []),
  (1, 0, 3, []),
  (1, 0, 3, []),
  (0, 1, 0, [(0, 179), (0, 180), (0, 181), (0, 182), (1, 0), (1, 0)]),
  (1, 0, 3, []),
  (1, 0, 3, []),
  (1, 0, 3, []),
  (1, 0, 3, []),
  (0, 1, 0, [(0, 184), (0, 185), (0, 186), (0, 187), (1, 0), (1, 0)]),
  (1, 0, 3, []),
  (1, 0, 3, []),
  (1, 0, 3, []),
  (1, 0, 3, []),
  (0, 1, 0, [(0, 189), (0, 190), (0, 191), (0, 192), (1, 0), (1, 0)]),
  (1, 0, 3, []),
  (1, 0, 3, []),
  (1, 0, 3, []),
  (1, 0, 3, []),
  (0, 1, 0, [(0, 194), (0, 195), (0, 196), (0, 197), (1, 0), (1, 0)]),
  (1, 0, 3, []),
  (1, 0, 3, []),
  (1, 0, 3, []),
  (1, 0, 3, []),
  (0, 7, 0, [(0, 199), (0, 200), (1, 0)]),
  (1, 2, 161, []),
  (1, 0, 161, []),
  (3, 7, 4, []),
  (0, 8, 0, [(1, 0), (1, 0), (0, 203), (0, 206), (0, 207), (0, 208), (0, 209), (1, 0), (1, 0), (1, 0), (1, 0), (1, 0)]),
  (0, 10, 0, [(0, 204), (0, 205), (1, 0)]),
  (2, 1, 160, []),
  (1, 0, 160, []),
  (1, 0, 160, []),
  (1, 3, 160, []),
  (1, 3, 18, []),
  (1, 3, 18, []),
  (0, 8, 0, [(1, 0), (1, 0), (0, 211), (0, 214), (0, 215), (0, 216), (0, 217), (1, 0), (1, 0), (1, 0), (1, 0), (1, 0)]),
  (0, 10, 0, [(0, 212), (0, 213), (1, 0)]),
  (2, 1, 160, []),
  (1, 0, 160, []),
  (1, 0, 160, []),
  (1, 3, 160, []),
  (1, 3, 18, []),
  (1, 3, 18, []),
  (0, 8, 0, [(1, 0), (1, 0), (0, 219), (0, 222), (0, 223), (0, 224), (0, 225), (1, 0), (1, 0), (1, 0), (1, 0), (1, 0)]),
  (0, 10, 0, [(0, 220), (0, 221), (1, 0)]),
  (2, 1, 160, []),
  (1, 0, 160, []),
  (1, 0, 160, []),
  (1, 3, 160, []),
  (1, 3, 18, []),
  (1, 3, 18, []),
  (0, 8, 0, [(1, 0), (1, 0), (0, 227), (0, 230), (0, 231), (0, 232), (0, 233), (1, 0), (1, 0), (1, 0), (1, 0), (1, 0)]),
  (0, 10, 0, [(0, 228), (0, 229), (1, 0)]),
  (2, 1, 160, []),
  (1, 0, 160, []),
  (1, 0, 160, []),
  (1, 3, 160, []),
  (1, 3, 18, []),
  (1, 3, 18, []),
  (0, 5, 0, [(0, 235), (0, 239), (0, 240), (1, 0), (1, 0), (0, 241), (0, 242), (1, 0)]),
  (0, 11, 0, [(0, 236), (0, 237), (0, 238), (1, 0)]),
  (1, 0, 201, []),
  (1, 0, 201, []),
  (1, 0, 201, []),
  (2, 1, 101, []),
  (1, 0, 101, []),
  (2, 1, 100, []),
  (1, 3, 100, []),
  (0, 9, 0, [(0, 244), (1, 0)]),
  (1, 2, 160, []),
  (0, 9, 0, [(0, 246), (1, 0)]),
  (1, 2, 160, []),
  (0, 9, 0, [(0, 248), (1, 0)]),
  (1, 2, 160, []),
  (0, 12, 0, [(0, 250), (0, 251), (1, 0), (0, 252), (0, 253), (1, 0), (0, 254), (0, 255), (0, 256), (0, 257), (0, 258), (0, 259), (1, 0), (1, 0), (0, 260), (0, 261), (1, 0), (1, 0), (0, 262), (0, 263), (0, 264), (0, 265), (0, 266), (1, 0), (0, 267), (0, 268), (1, 0), (0, 269), (0, 270), (1, 0), (0, 271), (0, 272), (1, 0), (0, 273), (0, 274), (1, 0), (0, 275), (0, 276), (0, 277), (0, 278), (0, 279), (0, 280), (0, 281), (0, 282), (0, 283), (0, 284), (1, 0), (0, 285), (0, 286), (1, 0), (1, 0), (0, 287), (0, 288), (0, 289), (0, 290), (0, 291), (1, 0), (0, 292), (0, 293), (0, 294), (0, 295), (1, 0), (0, 296), (0, 297), (0, 298), (0, 299), (0, 300), (1, 0), (0, 301), (0, 302), (0, 303), (0, 304)]),
  (1, 0, 480, []),
  (1, 0, 3, []),
  (1, 0, 162, []),
  (1, 0, 162, []),
  (2, 1, 644, []),
  (1, 0, 644, []),
  (1, 0, 644, []),
  (1, 0, 4, []),
  (1, 0, 4, []),
  (1, 0, 4, []),
  (1, 3, 80, []),
  (1, 3, 80, []),
  (2, 1, 8, []),
  (1, 0, 8, []),
  (2, 1, 24, []),
  (2, 1, 96, []),
  (1, 0, 8, []),
  (2, 1, 160, []),
  (1, 0, 160, []),
  (2, 1, 1361, []),
  (1, 0, 1361, []),
  (2, 1, 2561, []),
  (1, 0, 2561, []),
  (2, 1, 1201, []),
  (1, 0, 1201, []),
  (2, 1, 481, []),
  (1, 0, 481, []),
  (1, 0, 32, []),
  (1, 0, 32, []),
  (1, 0, 32, []),
  (1, 0, 32, []),
  (1, 0, 32, []),
  (1, 0, 32, []),
  (1, 0, 128, []),
  (1, 0, 128, []),
  (2, 1, 100, []),
  (1, 0, 100, []),
  (1, 0, 100, []),
  (1, 0, 101, []),
  (1, 0, 202, []),
  (1, 0, 202, []),
  (1, 0, 202, []),
  (2, 1, 100, []),
  (1, 0, 100, []),
  (1, 0, 100, []),
  (1, 3, 100, []),
  (1, 0, 300, []),
  (1, 0, 300, []),
  (1, 0, 300, []),
  (1, 0, 300, []),
  (1, 0, 300, []),
  (1, 0, 8, []),
  (1, 0, 8, []),
  (1, 0, 8, []),
  (1, 0, 8, [])]
abbrev w_S : Type := (Nat → Nat → Int) × (Nat → Nat → Int64) × (Nat → Int → Int) × (Nat → Int → Int64) × (Nat → Int → Option Nat)
abbrev sv (S : w_S) : Nat → Nat → Int := S.1
abbrev sl (S : w_S) : Nat → Nat → Int64 := S.2.1
abbrev sA (S : w_S) : Nat → Int → Int := S.2.2.1
abbrev sL (S : w_S) : Nat → Int → Int64 := S.2.2.2.1
abbrev sR (S : w_S) : Nat → Int → Option Nat := S.2.2.2.2
def w_u {α : Type} (f : Int → α) (i : Int) (x : α) : Int → α := fun j => if j = i then x else f j
def w_cp {α : Type} (f g : Int → α) (sp dp n : Int) : Int → α := fun k => if dp ≤ k ∧ k < dp + n then f (sp + (k - dp)) else g k
theorem w_u_self {α : Type} (f : Int → α) (i : Int) (x : α) : w_u f i x i = x := by simp [w_u]
theorem w_u_ne {α : Type} (f : Int → α) {i j : Int} (x : α) (h : ¬ j = i) : w_u f i x j = f j := by simp [w_u, h]
def w_fv (S : w_S) (a k : Nat) (q : Nat × Nat) : Value := match q.1 with
  | 0 => .ref q.2
  | 1 => .int (iZ (S.1 a k))
  | _ => .long (S.2.1 a k)
def w_fd (S : w_S) (a : Nat) : Nat → List (Nat × Nat) → List Value
  | _, [] => []
  | k, q :: t => w_fv S a k q :: w_fd S a (k + 1) t
def w_cl (S : w_S) (a : Nat) : Option (Nat × Nat × Nat × List (Nat × Nat)) → x_C
  | some (0, ci, _, fs) => .inr (ci, w_fd S a 0 fs)
  | some (1, t, n, _) => .inl (t, n, .inl (fun j => iZ (S.2.2.1 a (j : Int))))
  | some (2, t, n, _) => .inl (t, n, .inr (.inl (fun j => S.2.2.2.1 a (j : Int))))
  | some (_, t, n, _) => .inl (t, n, .inr (.inr (.inr (.inr (fun j => S.2.2.2.2 a (j : Int))))))
  | none => .inr (0, [])
def w_W (h : x_H) (S : w_S) : Prop := h.2.1 = 305 ∧ h.2.2 = 30037 ∧ ∀ a, a < 305 → h.1 a = w_cl S a w_sh[a]?
/-- the changes of a state -/
def w_v (S : w_S) (a k : Nat) (z : Int) : w_S := (fun b j => if b = a ∧ j = k then z else S.1 b j, S.2)
def w_l (S : w_S) (a k : Nat) (z : Int64) : w_S := (S.1, fun b j => if b = a ∧ j = k then z else S.2.1 b j, S.2.2)
def w_A (S : w_S) (a : Nat) (f : Int → Int) : w_S := (S.1, S.2.1, fun b => if b = a then f else S.2.2.1 b, S.2.2.2)
def w_L (S : w_S) (a : Nat) (f : Int → Int64) : w_S := (S.1, S.2.1, S.2.2.1, fun b => if b = a then f else S.2.2.2.1 b, S.2.2.2.2)
def w_R (S : w_S) (a : Nat) (f : Int → Option Nat) : w_S := (S.1, S.2.1, S.2.2.1, S.2.2.2.1, fun b => if b = a then f else S.2.2.2.2 b)
set_option maxRecDepth 100000 in
theorem w_len : w_sh.length = 305 := by decide +kernel
theorem w_lt {a : Nat} {e : Nat × Nat × Nat × List (Nat × Nat)} (hs : w_sh[a]? = some e) : a < 305 := by
  have h1 := (List.getElem?_eq_some_iff.mp hs).1
  rw [w_len] at h1
  exact h1
theorem w_get {h : x_H} {S : w_S} (hW : w_W h S) {a : Nat} {e : Nat × Nat × Nat × List (Nat × Nat)} (hs : w_sh[a]? = some e) : x_get h a = some (w_cl S a (some e)) := by
  have hl := w_lt hs
  unfold x_get
  rw [hW.1, if_pos hl, hW.2.2 a hl, hs]
theorem w_fd_get (S : w_S) (a : Nat) : ∀ (fs : List (Nat × Nat)) (k i : Nat) (q : Nat × Nat), fs[i]? = some q → (w_fd S a k fs)[i]? = some (w_fv S a (k + i) q)
  | [], _, _, _, h => by simp at h
  | p :: t, k, 0, q, h => by
    cases h
    rfl
  | p :: t, k, i + 1, q, h => by
    have h : t[i]? = some q := h
    have e := w_fd_get S a t (k + 1) i q h
    rw [show k + (i + 1) = k + 1 + i by omega]
    exact e
theorem w_fd_len (S : w_S) (a : Nat) : ∀ (fs : List (Nat × Nat)) (k : Nat), (w_fd S a k fs).length = fs.length
  | [], _ => rfl
  | p :: t, k => by
    show (w_fd S a (k + 1) t).length + 1 = t.length + 1
    rw [w_fd_len S a t (k + 1)]
theorem w_fd_cong {S S' : w_S} {a : Nat} : ∀ (fs : List (Nat × Nat)) (k : Nat), (∀ i q, fs[i]? = some q → w_fv S a (k + i) q = w_fv S' a (k + i) q) → w_fd S a k fs = w_fd S' a k fs
  | [], _, _ => rfl
  | p :: t, k, h => by
    show w_fv S a k p :: w_fd S a (k + 1) t = w_fv S' a k p :: w_fd S' a (k + 1) t
    have h0 := h 0 p rfl
    have h0 : w_fv S a k p = w_fv S' a k p := h0
    have e := w_fd_cong (S := S) (S' := S') (a := a) t (k + 1) (fun i q hq => by
      have h1 := h (i + 1) q hq
      rw [show k + (i + 1) = k + 1 + i by omega] at h1
      exact h1)
    rw [h0, e]
theorem w_fd_set {S S' : w_S} {a : Nat} {v : Value} : ∀ (fs : List (Nat × Nat)) (k i : Nat), (∀ j q, fs[j]? = some q → w_fv S' a (k + j) q = if j = i then v else w_fv S a (k + j) q) → (w_fd S a k fs).set i v = w_fd S' a k fs
  | [], _, _, _ => rfl
  | p :: t, k, 0, h => by
    have h0 := h 0 p rfl
    have h0 : w_fv S' a k p = v := by simpa using h0
    show v :: w_fd S a (k + 1) t = w_fv S' a k p :: w_fd S' a (k + 1) t
    have e := w_fd_cong (S := S) (S' := S') (a := a) t (k + 1) (fun j q hq => by
      have h1 := h (j + 1) q hq
      rw [show k + (j + 1) = k + 1 + j by omega, if_neg (by omega)] at h1
      exact h1.symm)
    rw [h0, e]
  | p :: t, k, i + 1, h => by
    have h0 := h 0 p rfl
    have h0 : w_fv S' a k p = w_fv S a k p := by simpa using h0
    show w_fv S a k p :: (w_fd S a (k + 1) t).set i v = w_fv S' a k p :: w_fd S' a (k + 1) t
    have e := w_fd_set (S := S) (S' := S') (a := a) (v := v) t (k + 1) i (fun j q hq => by
      have h1 := h (j + 1) q hq
      rw [show k + (j + 1) = k + 1 + j by omega] at h1
      rw [h1]
      by_cases e : j = i
      · rw [if_pos e, if_pos (by omega)]
      · rw [if_neg e, if_neg (by omega)])
    rw [h0, e]
/-- a cell is changed: the world with the changed state -/
theorem w_up {h : x_H} {S S' : w_S} (hW : w_W h S) {a : Nat} {e : x_C} (he : e = w_cl S' a w_sh[a]?) (ho : ∀ b, ¬ b = a → w_cl S b w_sh[b]? = w_cl S' b w_sh[b]?) : w_W (x_up h a e) S' := by
  refine ⟨hW.1, hW.2.1, fun b hb => ?_⟩
  by_cases eb : b = a
  · subst eb
    show va_up h.1 b e b = _
    rw [va_up_self, he]
  · show va_up h.1 a e b = _
    rw [va_up_ne _ _ eb, hW.2.2 b hb]
    exact ho b eb
theorem w_cl_cong {S S' : w_S} {b : Nat} (h1 : ∀ k, S.1 b k = S'.1 b k) (h2 : ∀ k, S.2.1 b k = S'.2.1 b k) (h3 : S.2.2.1 b = S'.2.2.1 b) (h4 : S.2.2.2.1 b = S'.2.2.2.1 b) (h5 : S.2.2.2.2 b = S'.2.2.2.2 b) (o : Option (Nat × Nat × Nat × List (Nat × Nat))) : w_cl S b o = w_cl S' b o := by
  unfold w_cl
  split
  · rw [w_fd_cong (S := S) (S' := S') (a := b) _ 0 (fun i q _ => by unfold w_fv; split <;> simp [h1, h2])]
  · rw [h3]
  · rw [h4]
  · rw [h5]
  · rfl
/-- walking over a state -/
def w_T (sc : x_S) (d k pc : Nat) (lv : x_L) (st : List Value) (S : w_S) (Q : Option Value → w_S → Prop) : Prop := ∀ h, w_W h S → x_T sc d k pc lv st h (fun r h' => ∃ S', w_W h' S' ∧ Q r S')
section WR
variable {sc : x_S} {d k pc : Nat} {lv : x_L} {st : List Value} {S : w_S} {Q : Option Value → w_S → Prop} {pc2 pc3 : Nat}
theorem w_getf {idx a ci sl fl n : Nat} {ty : FieldType} {fs : List (Nat × Nat)} {q : Nat × Nat} {v : Value} (hi : x_ins k pc = some (.getfield idx)) (hf : x_fld k idx = some (ci, sl, ty, fl)) (hs : w_sh[a]? = some (0, ci, n, fs)) (hq : fs[sl]? = some q) (hv : w_fv S a sl q = v) (hn : pc + 3 = pc2) (t : w_T sc d k pc2 lv (v :: st) S Q) : w_T sc d k pc lv (.ref a :: st) S Q := by
  intro h hW
  have e := w_fd_get S a fs 0 sl q hq
  rw [Nat.zero_add, hv] at e
  exact x_T_getf hi hf (w_get hW hs) e hn (t h hW)
theorem w_putf {idx a ci sl fl n : Nat} {ty : FieldType} {fs : List (Nat × Nat)} {r : Nat} {z : Int} (hi : x_ins k pc = some (.putfield idx)) (hf : x_fld k idx = some (ci, sl, ty, fl)) (hs : w_sh[a]? = some (0, ci, n, fs)) (hq : fs[sl]? = some (1, r)) (hv : x_fit ty (.int (iZ z)) = true) (hfl : fl < 2) (hn : pc + 3 = pc2) (t : w_T sc d k pc2 lv st (w_v S a sl z) Q) : w_T sc d k pc lv (.int (iZ z) :: .ref a :: st) S Q := by
  intro h hW
  have hl : sl < (w_fd S a 0 fs).length := by
    rw [w_fd_len]
    exact (List.getElem?_eq_some_iff.mp hq).1
  refine x_T_putf hi hf (w_get hW hs) hv hl hfl hn (t _ (w_up hW ?_ (fun b hb => w_cl_cong (S := S) (S' := w_v S a sl z) (b := b) (fun j => by simp [w_v, hb]) (fun _ => rfl) rfl rfl rfl _)))
  rw [hs]
  show Sum.inr (ci, (w_fd S a 0 fs).set sl (.int (iZ z))) = Sum.inr (ci, w_fd (w_v S a sl z) a 0 fs)
  rw [w_fd_set fs 0 sl (S' := w_v S a sl z) (fun j q hj => ?_)]
  rw [Nat.zero_add]
  by_cases e : j = sl
  · subst e
    rw [hq] at hj
    cases hj
    simp [w_fv, w_v]
  · rw [if_neg e]
    unfold w_fv w_v
    split <;> simp [e]
theorem w_putl {idx a ci sl fl n : Nat} {fs : List (Nat × Nat)} {r : Nat} {z : Int64} (hi : x_ins k pc = some (.putfield idx)) (hf : x_fld k idx = some (ci, sl, .long, fl)) (hs : w_sh[a]? = some (0, ci, n, fs)) (hq : fs[sl]? = some (2, r)) (hfl : fl < 2) (hn : pc + 3 = pc2) (t : w_T sc d k pc2 lv st (w_l S a sl z) Q) : w_T sc d k pc lv (.long z :: .ref a :: st) S Q := by
  intro h hW
  have hl : sl < (w_fd S a 0 fs).length := by
    rw [w_fd_len]
    exact (List.getElem?_eq_some_iff.mp hq).1
  refine x_T_putf hi hf (w_get hW hs) rfl hl hfl hn (t _ (w_up hW ?_ (fun b hb => w_cl_cong (S := S) (S' := w_l S a sl z) (b := b) (fun _ => rfl) (fun j => by simp [w_l, hb]) rfl rfl rfl _)))
  rw [hs]
  show Sum.inr (ci, (w_fd S a 0 fs).set sl (.long z)) = Sum.inr (ci, w_fd (w_l S a sl z) a 0 fs)
  rw [w_fd_set fs 0 sl (S' := w_l S a sl z) (fun j q hj => ?_)]
  rw [Nat.zero_add]
  by_cases e : j = sl
  · subst e
    rw [hq] at hj
    cases hj
    simp [w_fv, w_l]
  · rw [if_neg e]
    unfold w_fv w_l
    split <;> simp [e]
theorem w_getI {idx a ci sl fl n r : Nat} {ty : FieldType} {fs : List (Nat × Nat)} {z : Int} (hi : x_ins k pc = some (.getfield idx)) (hf : x_fld k idx = some (ci, sl, ty, fl)) (hs : w_sh[a]? = some (0, ci, n, fs)) (hq : fs[sl]? = some (1, r)) (hv : sv S a sl = z) (hn : pc + 3 = pc2) (t : w_T sc d k pc2 lv (.int (iZ z) :: st) S Q) : w_T sc d k pc lv (.ref a :: st) S Q := w_getf hi hf hs hq (by rw [← hv]; rfl) hn t
theorem w_getL {idx a ci sl fl n r : Nat} {ty : FieldType} {fs : List (Nat × Nat)} {z : Int64} (hi : x_ins k pc = some (.getfield idx)) (hf : x_fld k idx = some (ci, sl, ty, fl)) (hs : w_sh[a]? = some (0, ci, n, fs)) (hq : fs[sl]? = some (2, r)) (hv : S.2.1 a sl = z) (hn : pc + 3 = pc2) (t : w_T sc d k pc2 lv (.long z :: st) S Q) : w_T sc d k pc lv (.ref a :: st) S Q := w_getf hi hf hs hq (by rw [← hv]; rfl) hn t
theorem w_getR {idx a ci sl fl n r : Nat} {ty : FieldType} {fs : List (Nat × Nat)} (hi : x_ins k pc = some (.getfield idx)) (hf : x_fld k idx = some (ci, sl, ty, fl)) (hs : w_sh[a]? = some (0, ci, n, fs)) (hq : fs[sl]? = some (0, r)) (hn : pc + 3 = pc2) (t : w_T sc d k pc2 lv (.ref r :: st) S Q) : w_T sc d k pc lv (.ref a :: st) S Q := w_getf hi hf hs hq rfl hn t
theorem w_iald {a n : Nat} {i z : Int} {fs : List (Nat × Nat)} (hi : x_ins k pc = some .iaload) (hs : w_sh[a]? = some (1, 0, n, fs)) (h0 : 0 ≤ i) (h1 : i < n) (h2 : (n : Int) ≤ 2147483648) (hv : sA S a i = z) (hn : pc + 1 = pc2) (t : w_T sc d k pc2 lv (.int (iZ z) :: st) S Q) : w_T sc d k pc lv (.int (iZ i) :: .ref a :: st) S Q := by
  intro h hW
  exact x_T_iald hi (w_get hW hs) (iZ_in h0 h1 h2) (by rw [iZ_clamp ⟨by omega, by omega⟩, Int.toNat_of_nonneg h0, ← hv]) hn (t h hW)
theorem w_cald {a n : Nat} {i z : Int} {fs : List (Nat × Nat)} (hi : x_ins k pc = some .caload) (hs : w_sh[a]? = some (1, 2, n, fs)) (h0 : 0 ≤ i) (h1 : i < n) (h2 : (n : Int) ≤ 2147483648) (hv : sA S a i = z) (hn : pc + 1 = pc2) (t : w_T sc d k pc2 lv (.int (iZ z) :: st) S Q) : w_T sc d k pc lv (.int (iZ i) :: .ref a :: st) S Q := by
  intro h hW
  exact x_T_cald hi (w_get hW hs) (iZ_in h0 h1 h2) (by rw [iZ_clamp ⟨by omega, by omega⟩, Int.toNat_of_nonneg h0, ← hv]) hn (t h hW)
theorem w_bald {a n : Nat} {i z : Int} {fs : List (Nat × Nat)} (hi : x_ins k pc = some .baload) (hs : w_sh[a]? = some (1, 3, n, fs)) (h0 : 0 ≤ i) (h1 : i < n) (h2 : (n : Int) ≤ 2147483648) (hv : sA S a i = z) (hn : pc + 1 = pc2) (t : w_T sc d k pc2 lv (.int (iZ z) :: st) S Q) : w_T sc d k pc lv (.int (iZ i) :: .ref a :: st) S Q := by
  intro h hW
  exact x_T_bald hi (w_get hW hs) (iZ_in h0 h1 h2) (by rw [iZ_clamp ⟨by omega, by omega⟩, Int.toNat_of_nonneg h0, ← hv]) hn (t h hW)
theorem w_lald {a n : Nat} {i : Int} {z : Int64} {fs : List (Nat × Nat)} (hi : x_ins k pc = some .laload) (hs : w_sh[a]? = some (2, 1, n, fs)) (h0 : 0 ≤ i) (h1 : i < n) (h2 : (n : Int) ≤ 2147483648) (hv : sL S a i = z) (hn : pc + 1 = pc2) (t : w_T sc d k pc2 lv (.long z :: st) S Q) : w_T sc d k pc lv (.int (iZ i) :: .ref a :: st) S Q := by
  intro h hW
  exact x_T_lald hi (w_get hW hs) (iZ_in h0 h1 h2) (by rw [iZ_clamp ⟨by omega, by omega⟩, Int.toNat_of_nonneg h0, ← hv]) hn (t h hW)
theorem w_aald {a n t0 ci y : Nat} {i : Int} {fs : List (Nat × Nat)} (hi : x_ins k pc = some .aaload) (hs : w_sh[a]? = some (3, t0, n, fs)) (hc : x_cp t0 = some ci) (h0 : 0 ≤ i) (h1 : i < n) (h2 : (n : Int) ≤ 2147483648) (hy : sR S a i = some y) (hn : pc + 1 = pc2) (t : w_T sc d k pc2 lv (.ref y :: st) S Q) : w_T sc d k pc lv (.int (iZ i) :: .ref a :: st) S Q := by
  intro h hW
  exact x_T_aald hi (w_get hW hs) hc (iZ_in h0 h1 h2) (by rw [iZ_clamp ⟨by omega, by omega⟩, Int.toNat_of_nonneg h0]; exact hy) hn (t h hW)
theorem w_iast {a n : Nat} {i z : Int} {fs : List (Nat × Nat)} (hi : x_ins k pc = some .iastore) (hs : w_sh[a]? = some (1, 0, n, fs)) (h0 : 0 ≤ i) (h1 : i < n) (h2 : (n : Int) ≤ 2147483648) (hn : pc + 1 = pc2) (t : w_T sc d k pc2 lv st (w_A S a (w_u (sA S a) i z)) Q) : w_T sc d k pc lv (.int (iZ z) :: .int (iZ i) :: .ref a :: st) S Q := by
  intro h hW
  refine x_T_iast hi (w_get hW hs) (iZ_in h0 h1 h2) hn (t _ (w_up hW ?_ (fun b hb => w_cl_cong (S := S) (S' := w_A S a (w_u (sA S a) i z)) (b := b) (fun _ => rfl) (fun _ => rfl) (by simp [w_A, hb]) rfl rfl _)))
  rw [hs, iZ_clamp ⟨by omega, by omega⟩]
  show Sum.inl (0, n, Sum.inl (upd _ _ _)) = Sum.inl (0, n, Sum.inl _)
  congr 4
  funext j
  by_cases e : j = i.toNat
  · have e2 : (j : Int) = i := by omega
    simp [upd, w_A, w_u, e, e2, Int.toNat_of_nonneg h0]
  · have e2 : ¬ (j : Int) = i := by omega
    simp [upd, w_A, w_u, e, e2]
theorem w_cast {a n : Nat} {i z : Int} {fs : List (Nat × Nat)} (hi : x_ins k pc = some .castore) (hs : w_sh[a]? = some (1, 2, n, fs)) (h0 : 0 ≤ i) (h1 : i < n) (h2 : (n : Int) ≤ 2147483648) (hz : vp_nar .char (iZ z) = iZ z) (hn : pc + 1 = pc2) (t : w_T sc d k pc2 lv st (w_A S a (w_u (sA S a) i z)) Q) : w_T sc d k pc lv (.int (iZ z) :: .int (iZ i) :: .ref a :: st) S Q := by
  intro h hW
  refine x_T_cast hi (w_get hW hs) (iZ_in h0 h1 h2) hn (t _ (w_up hW ?_ (fun b hb => w_cl_cong (S := S) (S' := w_A S a (w_u (sA S a) i z)) (b := b) (fun _ => rfl) (fun _ => rfl) (by simp [w_A, hb]) rfl rfl _)))
  rw [hs, iZ_clamp ⟨by omega, by omega⟩, hz]
  show Sum.inl (2, n, Sum.inl (upd _ _ _)) = Sum.inl (2, n, Sum.inl _)
  congr 4
  funext j
  by_cases e : j = i.toNat
  · have e2 : (j : Int) = i := by omega
    simp [upd, w_A, w_u, e, e2, Int.toNat_of_nonneg h0]
  · have e2 : ¬ (j : Int) = i := by omega
    simp [upd, w_A, w_u, e, e2]
theorem w_bast {a n : Nat} {i z : Int} {fs : List (Nat × Nat)} (hi : x_ins k pc = some .bastore) (hs : w_sh[a]? = some (1, 3, n, fs)) (h0 : 0 ≤ i) (h1 : i < n) (h2 : (n : Int) ≤ 2147483648) (hz : vp_nar .boolean (iZ z) = iZ z) (hn : pc + 1 = pc2) (t : w_T sc d k pc2 lv st (w_A S a (w_u (sA S a) i z)) Q) : w_T sc d k pc lv (.int (iZ z) :: .int (iZ i) :: .ref a :: st) S Q := by
  intro h hW
  refine x_T_bast hi (w_get hW hs) (iZ_in h0 h1 h2) hn (t _ (w_up hW ?_ (fun b hb => w_cl_cong (S := S) (S' := w_A S a (w_u (sA S a) i z)) (b := b) (fun _ => rfl) (fun _ => rfl) (by simp [w_A, hb]) rfl rfl _)))
  rw [hs, iZ_clamp ⟨by omega, by omega⟩, hz]
  show Sum.inl (3, n, Sum.inl (upd _ _ _)) = Sum.inl (3, n, Sum.inl _)
  congr 4
  funext j
  by_cases e : j = i.toNat
  · have e2 : (j : Int) = i := by omega
    simp [upd, w_A, w_u, e, e2, Int.toNat_of_nonneg h0]
  · have e2 : ¬ (j : Int) = i := by omega
    simp [upd, w_A, w_u, e, e2]
theorem w_last {a n : Nat} {i : Int} {z : Int64} {fs : List (Nat × Nat)} (hi : x_ins k pc = some .lastore) (hs : w_sh[a]? = some (2, 1, n, fs)) (h0 : 0 ≤ i) (h1 : i < n) (h2 : (n : Int) ≤ 2147483648) (hn : pc + 1 = pc2) (t : w_T sc d k pc2 lv st (w_L S a (w_u (sL S a) i z)) Q) : w_T sc d k pc lv (.long z :: .int (iZ i) :: .ref a :: st) S Q := by
  intro h hW
  refine x_T_last hi (w_get hW hs) (iZ_in h0 h1 h2) hn (t _ (w_up hW ?_ (fun b hb => w_cl_cong (S := S) (S' := w_L S a (w_u (sL S a) i z)) (b := b) (fun _ => rfl) (fun _ => rfl) rfl (by simp [w_L, hb]) rfl _)))
  rw [hs, iZ_clamp ⟨by omega, by omega⟩]
  show Sum.inl (1, n, Sum.inr (Sum.inl (vp_updL _ _ _))) = Sum.inl (1, n, Sum.inr (Sum.inl _))
  congr 5
  funext j
  by_cases e : j = i.toNat
  · have e2 : (j : Int) = i := by omega
    simp [vp_updL, w_L, w_u, e, e2, Int.toNat_of_nonneg h0]
  · have e2 : ¬ (j : Int) = i := by omega
    simp [vp_updL, w_L, w_u, e, e2]
theorem w_aast {a n t0 ci y nn : Nat} {i : Int} {fs gs : List (Nat × Nat)} (hi : x_ins k pc = some .aastore) (hs : w_sh[a]? = some (3, t0, n, fs)) (hs2 : w_sh[y]? = some (0, ci, nn, gs)) (hc : x_cp t0 = some ci) (h0 : 0 ≤ i) (h1 : i < n) (h2 : (n : Int) ≤ 2147483648) (hn : pc + 1 = pc2) (t : w_T sc d k pc2 lv st (w_R S a (w_u (sR S a) i (some y))) Q) : w_T sc d k pc lv (.ref y :: .int (iZ i) :: .ref a :: st) S Q := by
  subst hn
  intro h hW
  refine x_T_step hi ?_ (t _ (w_up hW (a := a) (e := .inl (t0, n, .inr (.inr (.inr (.inr (va_up (fun j => S.2.2.2.2 a (j : Int)) i.toNat (some y))))))) ?_ (fun b hb => w_cl_cong (S := S) (S' := w_R S a (w_u (sR S a) i (some y))) (b := b) (fun _ => rfl) (fun _ => rfl) rfl rfl (by simp [w_R, hb]) _)))
  · have g1 := w_get hW hs
    have g2 := w_get hW hs2
    simp only [w_cl] at g1 g2
    have hj := iZ_in h0 h1 h2
    have hc2 := iZ_clamp (a := i) ⟨by omega, by omega⟩
    simp [x_one, x_pop, x_lod, x_sto, x_jmp, x_rd, x_wr, x_as, g1, g2, hj, hc, hc2, x_len]
  · rw [hs]
    show Sum.inl (t0, n, Sum.inr (Sum.inr (Sum.inr (Sum.inr (va_up _ _ _))))) = Sum.inl (t0, n, Sum.inr (Sum.inr (Sum.inr (Sum.inr _))))
    congr 7
    funext j
    by_cases e : j = i.toNat
    · have e2 : (j : Int) = i := by omega
      simp [va_up, w_R, w_u, e, e2, Int.toNat_of_nonneg h0]
    · have e2 : ¬ (j : Int) = i := by omega
      simp [va_up, w_R, w_u, e, e2]
theorem w_acpi {idx a0 a1 n0 n1 qq mm : Nat} {sp dp n : Int} {f0 f1 : List (Nat × Nat)} (hi : x_ins k pc = some (.invokestatic idx)) (hm : x_mth k idx = some (qq, 8, mm)) (hs0 : w_sh[a0]? = some (1, 0, n0, f0)) (hs1 : w_sh[a1]? = some (1, 0, n1, f1)) (h0 : 0 ≤ sp) (h1 : 0 ≤ dp) (h2 : 0 ≤ n) (h3 : sp + n ≤ n0) (h4 : dp + n ≤ n1) (h5 : (n0 : Int) < 2147483648) (h6 : (n1 : Int) < 2147483648) (hd : ¬ d = 0) (hr : x_cs st ≤ 8) (hn : pc + 3 = pc2) (t : w_T sc d k pc2 lv st (w_A S a1 (w_cp (sA S a0) (sA S a1) sp dp n)) Q) : w_T sc d k pc lv (.int (iZ n) :: .int (iZ dp) :: .ref a1 :: .int (iZ sp) :: .ref a0 :: st) S Q := by
  subst hn
  intro h hW
  refine x_T_step hi ?_ (t _ (w_up hW (a := a1) (e := .inl (0, n1, .inl (va_cpy (fun j => iZ (S.2.2.1 a0 (j : Int))) (fun j => iZ (S.2.2.1 a1 (j : Int))) sp.toNat dp.toNat n.toNat))) ?_ (fun b hb => w_cl_cong (S := S) (S' := w_A S a1 (w_cp (sA S a0) (sA S a1) sp dp n)) (b := b) (fun _ => rfl) (fun _ => rfl) (by simp [w_A, hb]) rfl rfl _)))
  · have g1 := w_get hW hs0
    have g2 := w_get hW hs1
    simp only [w_cl] at g1 g2
    have c1 := iZ_clamp (a := sp) ⟨by omega, by omega⟩
    have c2 := iZ_clamp (a := dp) ⟨by omega, by omega⟩
    have c3 := iZ_clamp (a := n) ⟨by omega, by omega⟩
    have z0 : ∀ {x : Int}, 0 ≤ x → x < 2147483648 → ¬ iZ x < 0 := fun {x} p q => by
      rw [show (0 : Int32) = iZ 0 by decide, iZ_lt ⟨by omega, by omega⟩ iR_0]
      omega
    have ok : x_aok2 d 8 st (iZ sp) (iZ dp) (iZ n) n0 n1 = true := by
      simp [x_aok2, hd, hr, c1, c2, c3]
      refine ⟨?_, ?_, ?_, by omega, by omega⟩
      · exact Int32.not_lt.mp (z0 h0 (by omega))
      · exact Int32.not_lt.mp (z0 h1 (by omega))
      · exact Int32.not_lt.mp (z0 h2 (by omega))
    simp [x_one, x_pop, x_lod, x_sto, x_jmp, x_rd, x_wr, x_or, x_aci, hm, g1, g2, ok, c1, c2, c3, x_len]
  · rw [hs1]
    show Sum.inl (0, n1, Sum.inl (va_cpy _ _ _ _ _)) = Sum.inl (0, n1, Sum.inl _)
    congr 4
    funext j
    simp only [va_cpy, w_A, if_true, w_cp]
    by_cases e : dp.toNat ≤ j ∧ j < dp.toNat + n.toNat
    · rw [if_pos e, if_pos ⟨by omega, by omega⟩]
      rw [show ((sp.toNat + (j - dp.toNat) : Nat) : Int) = sp + ((j : Int) - dp) by omega]
    · rw [if_neg e, if_neg (fun q => e ⟨by omega, by omega⟩)]
theorem w_acpl {idx a0 a1 n0 n1 qq mm : Nat} {sp dp n : Int} {f0 f1 : List (Nat × Nat)} (hi : x_ins k pc = some (.invokestatic idx)) (hm : x_mth k idx = some (qq, 8, mm)) (hs0 : w_sh[a0]? = some (2, 1, n0, f0)) (hs1 : w_sh[a1]? = some (2, 1, n1, f1)) (h0 : 0 ≤ sp) (h1 : 0 ≤ dp) (h2 : 0 ≤ n) (h3 : sp + n ≤ n0) (h4 : dp + n ≤ n1) (h5 : (n0 : Int) < 2147483648) (h6 : (n1 : Int) < 2147483648) (hd : ¬ d = 0) (hr : x_cs st ≤ 8) (hn : pc + 3 = pc2) (t : w_T sc d k pc2 lv st (w_L S a1 (w_cp (sL S a0) (sL S a1) sp dp n)) Q) : w_T sc d k pc lv (.int (iZ n) :: .int (iZ dp) :: .ref a1 :: .int (iZ sp) :: .ref a0 :: st) S Q := by
  subst hn
  intro h hW
  refine x_T_step hi ?_ (t _ (w_up hW (a := a1) (e := .inl (1, n1, .inr (.inl (va_cpy (fun j => S.2.2.2.1 a0 (j : Int)) (fun j => S.2.2.2.1 a1 (j : Int)) sp.toNat dp.toNat n.toNat)))) ?_ (fun b hb => w_cl_cong (S := S) (S' := w_L S a1 (w_cp (sL S a0) (sL S a1) sp dp n)) (b := b) (fun _ => rfl) (fun _ => rfl) rfl (by simp [w_L, hb]) rfl _)))
  · have g1 := w_get hW hs0
    have g2 := w_get hW hs1
    simp only [w_cl] at g1 g2
    have c1 := iZ_clamp (a := sp) ⟨by omega, by omega⟩
    have c2 := iZ_clamp (a := dp) ⟨by omega, by omega⟩
    have c3 := iZ_clamp (a := n) ⟨by omega, by omega⟩
    have z0 : ∀ {x : Int}, 0 ≤ x → x < 2147483648 → ¬ iZ x < 0 := fun {x} p q => by
      rw [show (0 : Int32) = iZ 0 by decide, iZ_lt ⟨by omega, by omega⟩ iR_0]
      omega
    have ok : x_aok2 d 8 st (iZ sp) (iZ dp) (iZ n) n0 n1 = true := by
      simp [x_aok2, hd, hr, c1, c2, c3]
      refine ⟨?_, ?_, ?_, by omega, by omega⟩
      · exact Int32.not_lt.mp (z0 h0 (by omega))
      · exact Int32.not_lt.mp (z0 h1 (by omega))
      · exact Int32.not_lt.mp (z0 h2 (by omega))
    simp [x_one, x_pop, x_lod, x_sto, x_jmp, x_rd, x_wr, x_or, x_aci, x_acl, hm, g1, g2, ok, c1, c2, c3, x_len]
  · rw [hs1]
    show Sum.inl (1, n1, Sum.inr (Sum.inl (va_cpy _ _ _ _ _))) = Sum.inl (1, n1, Sum.inr (Sum.inl _))
    congr 5
    funext j
    simp only [va_cpy, w_L, if_true, w_cp]
    by_cases e : dp.toNat ≤ j ∧ j < dp.toNat + n.toNat
    · rw [if_pos e, if_pos ⟨by omega, by omega⟩]
      rw [show ((sp.toNat + (j - dp.toNat) : Nat) : Int) = sp + ((j : Int) - dp) by omega]
    · rw [if_neg e, if_neg (fun q => e ⟨by omega, by omega⟩)]
end WR
