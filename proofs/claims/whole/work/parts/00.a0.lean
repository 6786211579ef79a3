theorem wide_on : True := by
  have _h := @Stand.thenCaughtThrough
  trivial
