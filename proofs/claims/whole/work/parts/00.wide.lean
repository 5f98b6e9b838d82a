/-! a name of the rest of the library: the claim is read over the whole of it -/
theorem xwide : True := by
  have _h := @Jvm.Stand.outThrough
  trivial
