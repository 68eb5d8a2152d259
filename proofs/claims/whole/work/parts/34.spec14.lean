-- judge, in the class
def jg_r (r : AR) (d : Int32) : AR := (r.1, r.2.1, d, r.2.2.2)
def jg_as (as : List AR) (i : Nat) (d : Int32) : List AR := match as[i]? with
  | some r => as.set i (jg_r r d)
  | none => as
theorem jg_as_eq {as l1 l2 : List AR} {r : AR} {i : Nat} {d : Int32} (e : as = l1 ++ r :: l2) (h : l1.length = i) : jg_as as i d = l1 ++ jg_r r d :: l2 := by
  subst e; subst h
  have h1 : (l1 ++ r :: l2)[l1.length]? = some r := by simp
  rw [jg_as, h1]
  show (l1 ++ r :: l2).set l1.length (jg_r r d) = _
  rw [List.set_append_right _ _ (Nat.le_refl _), Nat.sub_self]; rfl
def jg_S (S : SS) (x : Int32) : SS := if S.1 6 = (-1) then (tf_g S.1 x, tf_k S.2.1 S.2.2.1.1 x, S.2.2.1, S.2.2.2) else an_tk S x
def jg_F (as : List AR) (k : Nat) (S : SS) : SS := if S.1 5 = 1 then (nx_g (an as (nI k) 1000000 S) k, (an as (nI k) 1000000 S).1.2.1, (an as (nI k) 1000000 S).1.2.2.1, (an as (nI k) 1000000 S).1.2.2.2) else S
def jg_k (as : List AR) (k : Nat) (S : SS) : Nat := if S.1 5 = 1 then nx_k (an as (nI k) 1000000 S) k else k
def jg_U (as u : List AR) (k : Nat) (S : SS) : Prop := (S.1 5 = 1 → nx_R (an as (nI k) 1000000 S) as u k) ∧ (¬ S.1 5 = 1 → u = as)
