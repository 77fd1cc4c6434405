import java.lang.reflect.InvocationTargetException;
import java.lang.reflect.Method;
import java.util.ArrayList;
import java.util.Arrays;
import java.util.Comparator;
import java.util.List;

/** What the tests of boundaries share. A test is a static method whose name is promise, a number, _ and a name. */
abstract class Boundaries {
    interface Make {
        CustomsDesk make();
    }

    interface Use {
        Object on(CustomsDesk desk);
    }

    static final Class<?> INDEX = Check.INDEX;
    static final Class<?> ARGUMENT = Check.ARGUMENT;
    static final Class<?> STATE = Check.STATE;
    static final Class<?> NO_ELEMENT = Check.NO_ELEMENT;
    static final Class<?> UNSUPPORTED = Check.UNSUPPORTED;
    static final Class<?> ARITHMETIC = Check.ARITHMETIC;

    private static final int MOST_CHANGES = 8;
    // An object answers for 512 calls only, so what there is to see is looked at in slices, each on a desk of its own.
    private static final int SLICES = 5;

    static void runAll(Class<?> tests) {
        Method[] methods = tests.getDeclaredMethods();
        Arrays.sort(methods, Comparator.comparing(Method::getName));
        int run = 0;
        for (Method method : methods) {
            if (method.getName().matches("promise\\d+_\\w+")) {
                Check.due(method.getName(), "no exception", () -> outcome(method));
                run++;
            }
        }
        int found = run;
        Check.due("there are tests in " + tests.getName(), true, () -> found > 0);
        Check.end();
    }

    private static String outcome(Method method) {
        try {
            method.invoke(null);
            return "no exception";
        } catch (InvocationTargetException e) {
            return e.getCause().toString();
        } catch (IllegalAccessException e) {
            return e.toString();
        }
    }

    static void due(Object want, Check.Call call) {
        Check.due(where(), want, call);
    }

    static void refuses(Class<?> kind, Check.Call call) {
        Check.fails(where(), kind, call);
    }

    private static String where() {
        for (StackTraceElement frame : new Throwable().getStackTrace()) {
            if (frame.getMethodName().startsWith("promise")) {
                return frame.getMethodName() + " (" + frame.getFileName() + ":" + frame.getLineNumber() + ")";
            }
        }
        return "a test";
    }

    static int[] upTo(int count) {
        int[] numbers = new int[count];
        for (int i = 0; i < count; i++) {
            numbers[i] = i;
        }
        return numbers;
    }

    /** The numbers next to a range, and those that a sum or a product could bring back into it. */
    static int[] outside(int least, int most) {
        return new int[] {least - 1, most + 1, Integer.MIN_VALUE, Integer.MAX_VALUE};
    }

    // ---- desks

    /** Headings: 0 is code 1, 1 is code 11, 2 is code 12, 3 is code 2; 1, 2 and 3 are ends. */
    static CustomsDesk small() {
        return Check.smallDesk();
    }

    /** Small, with the rate for headings 0 to 2; heading 3 has none. */
    static CustomsDesk taxed(int rate) {
        CustomsDesk desk = small();
        desk.rate(0, rate);
        return desk;
    }

    /** Four headings, each the parent of the next: the codes are 1, 12, 123 and 1234. */
    static CustomsDesk way() {
        CustomsDesk desk = new CustomsDesk();
        for (int level : upTo(4)) {
            desk.heading(level - 1, level + 1);
        }
        return desk;
    }

    static int goods(CustomsDesk desk, int heading, int country, int value, int quantity, int proof, int quota) {
        return Check.declared(desk, heading, country, value, quantity, proof, quota);
    }

    /** Goods of country 0 worth 100, without a proof. */
    static int claims(CustomsDesk desk, int heading, int quantity, int quota) {
        return goods(desk, heading, 0, 100, quantity, 0, quota);
    }

    static Object lodges(CustomsDesk desk, String text) {
        return Check.lodged(desk, text);
    }

    /**
     * Something of everything: declaration 0 is refunded, 1 and 2 are settled, 3 is lodged; two parts, something else
     * saved, and eight changes that can be taken back. No call was refused.
     */
    static CustomsDesk plain() {
        CustomsDesk desk = taxed(200);
        desk.rate(3, 300);
        desk.prefer(0, 1, 100, 1);
        desk.suspend(3, 5, 9);
        desk.quota(0, -1, 50, 20, 99);
        desk.quota(3, 2, 5, 30, 4);
        goods(desk, 1, 1, 1000, 10, 0, 0);
        goods(desk, 2, 1, 2000, 20, 0, 0);
        desk.save();
        goods(desk, 3, 2, 3000, 30, 0, 1);
        desk.pass(2);
        lodges(desk, "11x5@1:500#0");
        desk.part(4, 70);
        desk.part(5, 80);
        desk.refund(0);
        desk.set(1, 36);
        desk.set(1, 38);
        desk.set(1, 40);
        return desk;
    }

    /** The same with a refusal, an error position and two signs in the buffer. */
    static CustomsDesk worked() {
        CustomsDesk desk = plain();
        Check.answer(() -> desk.refund(3));
        Check.answer(() -> lodges(desk, "1"));
        Check.write(desk, "11");
        return desk;
    }

    /** Worked, with three of its changes taken back: five are left, so that one more can be seen in their number. */
    static CustomsDesk workedWithFiveChanges() {
        CustomsDesk desk = worked();
        desk.undo();
        desk.undo();
        desk.undo();
        return desk;
    }

    /** As much of everything as there can be: headings, preferences, suspensions, quotas, declarations, parts, text. */
    static CustomsDesk full() {
        CustomsDesk desk = way();
        for (int digit = 2; digit <= 9; digit++) {
            desk.heading(-1, digit);
            desk.heading(0, digit == 2 ? 1 : digit);
        }
        desk.rate(0, 100);
        for (int made : upTo(10)) {
            desk.prefer(0, made % 8, 90 - made, made % 3);
        }
        for (int made : upTo(6)) {
            desk.suspend(4, made, 10 + made);
            desk.quota(0, -1, 10 + made, 5, 50 + made);
        }
        for (int made : upTo(30)) {
            desk.part(made % 8, 1000 + made);
            desk.declare(3, 1 + made, made % 3, made % 7 - 1);
            if (made == 19) {
                desk.pass(1);
                desk.refund(3);
                desk.prove(9, 1);
                desk.save();
            }
        }
        for (int made : upTo(4)) {
            desk.part(made, 7);
        }
        Check.write(desk, "1".repeat(60));
        return desk;
    }

    // ---- what there is to see

    /** A slice of all that changes belong to, and of how many of them can be taken back. */
    static List<Object> look(CustomsDesk desk, int slice) {
        List<Object> seen = new ArrayList<>();
        if (slice == 0) {
            lookAtAccounts(desk, seen);
        } else if (slice == 1 || slice == 2) {
            lookAtDeclarations(desk, seen, slice == 1 ? 0 : 15);
        } else if (slice == 3) {
            lookAtHeadings(desk, seen);
        } else {
            lookAtRules(desk, seen);
        }
        return seen;
    }

    private static void lookAtAccounts(CustomsDesk desk, List<Object> seen) {
        for (int what : upTo(12)) {
            seen.add(Check.answer(() -> desk.account(what)));
        }
        for (int country : upTo(8)) {
            seen.add(Check.answer(() -> desk.kept(country)));
            seen.add(Check.answer(() -> desk.keptAgain(country)));
        }
        for (int quota : upTo(6)) {
            for (int what : upTo(9)) {
                seen.add(Check.answer(() -> desk.quotaTold(quota, what)));
            }
            seen.add(Check.answer(() -> desk.leftThen(quota)));
        }
        seen.add(Check.answer(desk::changes));
        seen.add(Check.answer(desk::givenBack));
        seen.add(Check.answer(desk::meanRate));
        seen.add(Check.answer(desk::origin));
    }

    private static void lookAtDeclarations(CustomsDesk desk, List<Object> seen, int first) {
        for (int at : upTo(15)) {
            for (int what : upTo(15)) {
                seen.add(Check.answer(() -> desk.declaration(first + at, what)));
            }
            seen.add(Check.answer(() -> desk.claim(first + at)));
        }
    }

    private static void lookAtHeadings(CustomsDesk desk, List<Object> seen) {
        for (int heading : upTo(20)) {
            for (int what : upTo(7)) {
                seen.add(Check.answer(() -> desk.told(heading, what)));
            }
            seen.add(Check.answer(() -> desk.keptUnder(heading)));
        }
        for (int code : new int[] {1, 2, 9, 11, 12, 13, 123, 1234}) {
            seen.add(Check.answer(() -> desk.find(code)));
        }
    }

    /** The settings can only be seen by setting them. */
    private static void lookAtRules(CustomsDesk desk, List<Object> seen) {
        for (int heading : upTo(20)) {
            seen.add(Check.answer(() -> desk.comesFrom(heading, heading % 8, 600, heading % 3)));
            seen.add(Check.answer(() -> desk.missed(heading, heading % 8, 601, heading % 3)));
        }
        for (int country : upTo(8)) {
            for (int proof : upTo(3)) {
                seen.add(Check.answer(() -> desk.rateOf(0, country, 601, proof)));
                seen.add(Check.answer(() -> desk.rateOf(1, country, 600, proof)));
                seen.add(Check.answer(() -> desk.missed(1, country, 600, proof)));
                seen.add(Check.answer(() -> desk.rateOf(3, country, 600, proof)));
            }
        }
        seen.add(Check.answer(() -> desk.set(0, 50)));
        seen.add(Check.answer(() -> desk.set(1, 30)));
        seen.add(Check.answer(() -> desk.set(2, 600)));
    }

    /** What no change has: the reason of a refusal, the error position and the buffer. */
    static List<Object> lookAside(CustomsDesk desk) {
        List<Object> seen = new ArrayList<>();
        seen.add(Check.answer(() -> desk.append('1')));
        seen.add(Check.answer(desk::refusal));
        seen.add(Check.answer(desk::errorPosition));
        return seen;
    }

    /** Both make desks on which the same is to be seen. */
    static void alike(Make one, Make other) {
        for (int slice : upTo(SLICES)) {
            due(look(one.make(), slice), () -> look(other.make(), slice));
        }
    }

    static void unlike(Make one, Make other) {
        boolean differs = false;
        for (int slice : upTo(SLICES)) {
            differs |= !look(one.make(), slice).equals(look(other.make(), slice));
        }
        boolean seen = differs;
        due(true, () -> seen);
    }

    /** A refused call leaves all that belongs to changes, what can be taken back, and what is saved. */
    static void leavesDesk(Class<?> kind, Make make, Use... calls) {
        for (Use call : calls) {
            refuses(kind, () -> call.on(make.make()));
            Make used = () -> {
                CustomsDesk desk = make.make();
                Check.answer(() -> call.on(desk));
                return desk;
            };
            for (int back : upTo(MOST_CHANGES + 1)) {
                alike(() -> takenBack(make.make(), back), () -> takenBack(used.make(), back));
            }
            alike(() -> restored(make.make()), () -> restored(used.make()));
        }
    }

    /** A refused call leaves all that, and also the buffer, the error position and the reason of a refusal. */
    static void leavesAll(Class<?> kind, Make make, Use... calls) {
        leavesDesk(kind, make, calls);
        for (Use call : calls) {
            due(lookAside(make.make()), () -> {
                CustomsDesk desk = make.make();
                Check.answer(() -> call.on(desk));
                return lookAside(desk);
            });
        }
    }

    private static CustomsDesk takenBack(CustomsDesk desk, int changes) {
        for (int i = 0; i < changes; i++) {
            Check.answer(desk::undo);
        }
        return desk;
    }

    private static CustomsDesk restored(CustomsDesk desk) {
        Check.answer(desk::restore);
        return desk;
    }
}
