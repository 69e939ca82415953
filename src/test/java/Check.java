/** Compares answers with what is due, and counts those that differ. */
final class Check {
    interface Call {
        Object make();
    }

    private static int wrong;
    private static int made;

    private Check() {
    }

    static void same(String what, Object got, Object due) {
        made++;
        if (!got.equals(due)) {
            wrong++;
            System.out.println(what + ": answered " + got + ", due is " + due);
        }
    }

    static void fails(String what, Class<? extends RuntimeException> due, Call call) {
        Object got;
        try {
            got = call.make();
        } catch (RuntimeException e) {
            got = e.getClass();
        }
        same(what, got, due);
    }

    static void finish(String name) {
        System.out.println(name + ": " + made + " checks, " + wrong + " wrong");
        if (wrong > 0) {
            System.exit(1);
        }
    }
}
