/** Two objects that are made alike, of which the one is told a call more. */
final class Twins {
    private Twins() {
    }

    interface Setup {
        Bench on();
    }

    interface Call {
        long on(RuleForge x);
    }

    /** The call answers this, or throws it, and both show the same afterwards. */
    static void alike(String what, String answer, Setup setup, Call call) {
        for (int part = 0; part < Shown.PARTS; part++) {
            Bench with = setup.on();
            Bench without = setup.on();
            Bench.due(what, did(call, with.x), answer);
            boolean isSame = Shown.part(part, with).equals(Shown.part(part, without));
            Bench.due(what + " changes nothing (part " + part + ")", isSame, true);
        }
    }

    private static String did(Call call, RuleForge x) {
        try {
            return Long.toString(call.on(x));
        } catch (RuntimeException e) {
            return e.getClass().getSimpleName();
        }
    }
}
