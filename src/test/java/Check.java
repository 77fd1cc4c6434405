/** What the tests share: it compares answers and exceptions, prints what is wrong and sets the exit code. */
final class Check {
    interface Call {
        Object run();
    }

    static final Class<?> INDEX = IndexOutOfBoundsException.class;
    static final Class<?> ARGUMENT = IllegalArgumentException.class;
    static final Class<?> STATE = IllegalStateException.class;
    static final Class<?> NO_ELEMENT = java.util.NoSuchElementException.class;
    static final Class<?> UNSUPPORTED = UnsupportedOperationException.class;
    static final Class<?> ARITHMETIC = ArithmeticException.class;

    private static int wrong = 0;
    private static int checks = 0;

    private Check() {
    }

    static void due(String what, Object want, Call call) {
        Object got = answer(call);
        checks++;
        if (!want.equals(got)) {
            wrong++;
            System.out.println(what + " answered " + got + ", due is " + want);
        }
    }

    /** The exception must be of this very class: a machine's exception of a class below it is not due. */
    static void fails(String what, Class<?> kind, Call call) {
        due(what, kind, call);
    }

    static Object answer(Call call) {
        try {
            return call.run();
        } catch (RuntimeException e) {
            return e.getClass();
        }
    }

    static void end() {
        System.out.println(checks + " checks, " + wrong + " wrong");
        if (wrong != 0) {
            System.exit(1);
        }
    }

    /** Headings: 0 is code 1, 1 is code 11, 2 is code 12, 3 is code 2; 1, 2 and 3 are ends. */
    static CustomsDesk smallDesk() {
        CustomsDesk desk = new CustomsDesk();
        desk.heading(-1, 1);
        desk.heading(0, 1);
        desk.heading(0, 2);
        desk.heading(-1, 2);
        return desk;
    }

    static int declared(CustomsDesk desk, int heading, int country, int value, int quantity, int proof, int quota) {
        int rest = value;
        while (rest > 0) {
            int piece = Math.min(rest, 9999);
            desk.part(country, piece);
            rest -= piece;
        }
        return desk.declare(heading, quantity, proof, quota);
    }

    static void write(CustomsDesk desk, String text) {
        for (int i = 0; i < text.length(); i++) {
            desk.append(text.charAt(i));
        }
    }

    static int lodged(CustomsDesk desk, String text) {
        write(desk, text);
        return desk.lodge();
    }
}
