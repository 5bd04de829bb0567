section WIDE
/-- arrays of arrays: the name stands in the rest of the library, so that the first round is read over the whole of it -/
theorem aoa_there : True := by
  have h := @Jvm.Stand.arrayOver_specB
  trivial
end WIDE
