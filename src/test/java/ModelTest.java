import java.util.ArrayList;
import java.util.List;
import java.util.Random;
import java.util.regex.Matcher;
import java.util.regex.Pattern;

/** Runs of 512 calls by a fixed seed, compared with a second desk that is written in another way. */
public final class ModelTest {
    private static final int RUNS = 6000;
    private static final int CALLS = 512;
    private static final int CALL_KINDS = 44;
    private static final int DECLARES = 22;

    public static void main(String[] args) {
        for (int run = 0; run < RUNS; run++) {
            new Run(run).go();
        }
        Check.end();
    }

    private static final class Run {
        private final int number;
        private final Random random;
        private final CustomsDesk desk = new CustomsDesk();
        private final Model model = new Model();
        // A crowded run has few headings and countries and declares much, so that claims meet on the same quotas.
        private final boolean isCrowded;
        private int used = 0;

        Run(int number) {
            this.number = number;
            this.random = new Random(number);
            this.isCrowded = number % 2 == 1;
        }

        void go() {
            while (used < CALLS) {
                one();
            }
        }

        private int pick(int least, int most) {
            return least + random.nextInt(most - least + 1);
        }

        /** Mostly from the range, sometimes beside it. */
        private int near(int least, int most) {
            int kind = random.nextInt(40);
            if (kind == 0) {
                return least - 1;
            }
            if (kind == 1) {
                return most + 1;
            }
            if (kind == 2) {
                return random.nextBoolean() ? Integer.MIN_VALUE : Integer.MAX_VALUE;
            }
            if (kind < 6) {
                return kind == 3 ? least : most;
            }
            return least > most ? least : pick(least, most);
        }

        private int index(int count) {
            return near(0, Math.max(0, count - 1));
        }

        private int anEnd() {
            for (int tries = 0; tries < 5; tries++) {
                int at = index(model.now.headings.size());
                if (model.isHeading(at) && model.children(at) == 0) {
                    return at;
                }
            }
            return index(model.now.headings.size());
        }

        /** A later call than the 512th may answer anything. */
        private void same(String call, Check.Call asked, Check.Call due) {
            if (used >= CALLS) {
                return;
            }
            used++;
            Object want = Check.answer(due);
            Check.due("run " + number + ": " + call, want, asked);
        }

        private int kindOfCall() {
            boolean isToDeclare = isCrowded && model.now.headings.size() > 3 && random.nextInt(3) == 0;
            return isToDeclare ? DECLARES : random.nextInt(CALL_KINDS);
        }

        private void one() {
            Model.State now = model.now;
            int headings = now.headings.size();
            boolean isNarrow = isCrowded && random.nextInt(8) > 0;
            int h = index(isNarrow ? Math.min(headings, 2) : headings);
            int c = near(0, isNarrow ? 1 : 7);
            switch (kindOfCall()) {
                case 0, 1 -> {
                    int parent = pick(-1, Math.max(0, headings - 1));
                    int digit = near(1, 9);
                    same("heading", () -> desk.heading(parent, digit), () -> model.heading(parent, digit));
                }
                case 2, 3 -> {
                    int rate = random.nextInt(4) == 0 ? -1 : near(isNarrow ? 200 : -1, random.nextBoolean() ? 1000 : 200);
                    same("rate", () -> desk.rate(h, rate), () -> model.rate(h, rate));
                }
                case 4 -> {
                    int what = near(0, 6);
                    same("told", () -> desk.told(h, what), () -> model.told(h, what));
                }
                case 5 -> {
                    int code = random.nextBoolean() && headings > 0 ? Integer.parseInt(model.code(pick(0, headings - 1)))
                            : pick(-1, 200);
                    same("find", () -> desk.find(code), () -> model.find(code));
                }
                case 6, 7 -> {
                    int rate = near(0, 300);
                    int need = near(0, 2);
                    same("prefer", () -> desk.prefer(h, c, rate, need), () -> model.prefer(h, c, rate, need));
                }
                case 8 -> {
                    int p = index(now.preferences.size());
                    same("drop", () -> desk.drop(p), () -> model.drop(p));
                }
                case 9 -> {
                    if (isNarrow) {
                        return;
                    }
                    int first = near(Math.max(0, now.day - 3), Math.min(999, now.day + 3));
                    int last = near(Math.max(0, Math.min(999, first)), Math.min(999, now.day + 6));
                    same("suspend", () -> desk.suspend(h, first, last), () -> model.suspend(h, first, last));
                }
                case 10, 11 -> {
                    int country = near(-1, 7);
                    int co = random.nextBoolean() ? -1 : country;
                    int units = near(1, random.nextInt(4) == 0 ? 9999 : 60);
                    int rate = near(0, 120);
                    int last = near(now.day, Math.min(999, now.day + 20));
                    same("quota", () -> desk.quota(h, co, units, rate, last),
                            () -> model.quota(h, co, units, rate, last));
                }
                case 12 -> {
                    int q = index(now.quotas.size());
                    int what = near(0, 8);
                    same("quotaTold", () -> desk.quotaTold(q, what), () -> model.quotaTold(q, what));
                }
                case 13 -> {
                    int what = near(0, 2);
                    int value = what == 0 ? near(30, 100) : what == 1 ? near(0, 99) : near(0, 2000);
                    same("set", () -> desk.set(what, value), () -> model.set(what, value));
                }
                case 14, 15, 16 -> {
                    int value = near(1, random.nextBoolean() ? 1000 : 99999);
                    int proof = near(0, 2);
                    same("rateOf", () -> desk.rateOf(h, c, value, proof), () -> model.rateOf(h, c, value, proof));
                    same("comesFrom", () -> desk.comesFrom(h, c, value, proof),
                            () -> model.comesFrom(h, c, value, proof));
                    same("missed", () -> desk.missed(h, c, value, proof), () -> model.missed(h, c, value, proof));
                }
                case 17, 18, 19, 20 -> {
                    int value = near(1, random.nextBoolean() ? 500 : 9999);
                    same("part", () -> desk.part(c, value), () -> model.part(c, value));
                }
                case 21 -> {
                    if (random.nextInt(4) == 0) {
                        same("forget", desk::forget, model::forget);
                    }
                    same("origin", desk::origin, model::origin);
                }
                case 22, 23, 24, 25, 26 -> {
                    if (now.parts.isEmpty()) {
                        int value = near(1, 9999);
                        same("part", () -> desk.part(c, value), () -> model.part(c, value));
                    }
                    int end = anEnd();
                    int quantity = near(1, random.nextInt(4) == 0 ? 999 : 30);
                    int proof = near(0, 2);
                    int quota = near(isNarrow && !now.quotas.isEmpty() ? 0 : -1, now.quotas.size() - 1);
                    same("origin", desk::origin, model::origin);
                    same("declare", () -> desk.declare(end, quantity, proof, quota),
                            () -> model.declare(end, quantity, proof, quota));
                }
                case 27, 28 -> {
                    int d = index(now.declarations.size());
                    for (int what = -1; what <= 15; what++) {
                        int w = what;
                        same("declaration " + w, () -> desk.declaration(d, w), () -> model.declaration(d, w));
                    }
                }
                case 29, 30 -> {
                    int d = random.nextBoolean() ? index(now.declarations.size()) : now.declarations.size() - 1;
                    same("claim", () -> desk.claim(d), () -> model.claim(d));
                }
                case 31 -> {
                    int q = index(now.quotas.size());
                    same("leftThen", () -> desk.leftThen(q), () -> model.leftThen(q));
                }
                case 32, 33 -> {
                    int days = random.nextInt(8) == 0 ? near(1, 99) : near(1, 3);
                    same("pass", () -> desk.pass(days), () -> model.pass(days));
                }
                case 34 -> {
                    int d = index(now.declarations.size());
                    same("refund", () -> desk.refund(d), () -> model.refund(d));
                    same("refusal", desk::refusal, model::refusal);
                }
                case 35, 36 -> {
                    int d = index(now.declarations.size());
                    int proof = near(1, 2);
                    same("prove", () -> desk.prove(d, proof), () -> model.prove(d, proof));
                    same("refusal", desk::refusal, model::refusal);
                }
                case 37 -> {
                    for (int what = -1; what <= 12; what++) {
                        int w = what;
                        same("account " + w, () -> desk.account(w), () -> model.account(w));
                    }
                    same("givenBack", desk::givenBack, model::givenBack);
                    same("meanRate", desk::meanRate, model::meanRate);
                }
                case 38 -> {
                    same("kept", () -> desk.kept(c), () -> model.kept(c));
                    same("keptAgain", () -> desk.keptAgain(c), () -> model.kept(c));
                    same("keptUnder", () -> desk.keptUnder(h), () -> model.keptUnder(h));
                }
                case 39, 40 -> aText();
                case 41 -> same("undo", desk::undo, model::undo);
                case 42 -> {
                    same("changes", desk::changes, model::changes);
                    if (random.nextInt(3) == 0) {
                        same("undo", desk::undo, model::undo);
                    }
                }
                default -> {
                    if (random.nextBoolean()) {
                        same("save", desk::save, model::save);
                    } else if (random.nextInt(3) == 0) {
                        same("restore", desk::restore, model::restore);
                    }
                }
            }
        }

        private void aText() {
            String text = makeText();
            for (int i = 0; i < text.length(); i++) {
                char sign = text.charAt(i);
                same("append", () -> desk.append(sign), () -> model.append(sign));
            }
            if (random.nextInt(10) > 0) {
                same("lodge " + text, desk::lodge, model::lodge);
            }
            same("errorPosition", desk::errorPosition, model::errorPosition);
        }

        private String makeText() {
            StringBuilder text = new StringBuilder();
            int entries = random.nextInt(3) == 0 ? pick(1, 5) : 1;
            for (int entry = 0; entry < entries; entry++) {
                text.append(entry > 0 ? ";" : "");
                int end = anEnd();
                text.append(model.isHeading(end) && random.nextInt(12) > 0 ? model.code(end) : "" + pick(0, 99));
                text.append('x').append(random.nextInt(15) == 0 ? pick(0, 20000) : pick(1, 50)).append('@');
                int parts = random.nextInt(8) == 0 ? pick(1, 6) : pick(1, 3);
                for (int part = 0; part < parts; part++) {
                    text.append(part > 0 ? "+" : "").append(random.nextInt(15) == 0 ? 9 : pick(0, 7)).append(':');
                    text.append(random.nextInt(20) == 0 ? pick(0, 100000) : pick(1, 999));
                }
                text.append(random.nextBoolean() ? "!" + (random.nextInt(15) == 0 ? 3 : pick(0, 2)) : "");
                int quotas = model.now.quotas.size();
                text.append(quotas > 0 && random.nextBoolean() ? "#" + pick(0, quotas - (quotas > 0 ? 1 : 0)) : "");
            }
            if (random.nextInt(4) == 0 && text.length() > 0) {
                String signs = "0123456789x@:+!#;~a";
                char sign = signs.charAt(random.nextInt(signs.length()));
                int at = random.nextInt(text.length());
                switch (random.nextInt(3)) {
                    case 0 -> text.setCharAt(at, sign);
                    case 1 -> text.insert(at, sign);
                    default -> text.setLength(at);
                }
            }
            return text.toString();
        }
    }

    /** The document once more, with lists of maps that are copied whole. */
    private static final class Model {
        private record Heading(int parent, int digit, int rate) {
        }

        private record Preference(int heading, int country, int rate, int need) {
        }

        private record Suspension(int heading, int first, int last) {
        }

        private record Quota(int heading, int country, int units, int rate, int first, int last) {
        }

        private record Part(int country, int value) {
        }

        private static final class Declaration implements Cloneable {
            int heading;
            int quantity;
            int value;
            int origin;
            int proof;
            int quota;
            int day;
            int status;
            int got;
            int first;
            int second;
            int foundFirst;
            int foundSecond;
            int rate = -1;
            int from = -1;
            int reason = -1;
            boolean unitsLost;
            int unitsBefore;

            Declaration copy() {
                try {
                    return (Declaration) clone();
                } catch (CloneNotSupportedException e) {
                    throw new AssertionError(e);
                }
            }
        }

        private static final class State {
            List<Heading> headings = new ArrayList<>();
            List<Preference> preferences = new ArrayList<>();
            List<Suspension> suspensions = new ArrayList<>();
            List<Quota> quotas = new ArrayList<>();
            List<Declaration> declarations = new ArrayList<>();
            List<Part> parts = new ArrayList<>();
            int day;
            int[] settings = {50, 30, 600};

            State copy() {
                State other = new State();
                other.headings.addAll(headings);
                other.preferences.addAll(preferences);
                other.suspensions.addAll(suspensions);
                other.quotas.addAll(quotas);
                for (Declaration d : declarations) {
                    other.declarations.add(d.copy());
                }
                other.parts.addAll(parts);
                other.day = day;
                other.settings = settings.clone();
                return other;
            }
        }

        private static final Pattern TEXT = Pattern.compile("E(;E)*".replace("E",
                "[1-9]{1,4}x[1-9][0-9]{0,4}@[0-9]:[1-9][0-9]{0,4}([+][0-9]:[1-9][0-9]{0,4}){0,3}(![0-9])?(#[0-9])?"));

        State now = new State();
        private State saved = null;
        private final List<State> before = new ArrayList<>();
        private String buffer = "";
        private int error = -1;
        private int refused = 0;

        private void change() {
            before.add(now.copy());
            if (before.size() > 8) {
                before.remove(0);
            }
        }

        private static void index(boolean ok) {
            if (!ok) {
                throw new IndexOutOfBoundsException();
            }
        }

        private static void argument(boolean ok) {
            if (!ok) {
                throw new IllegalArgumentException();
            }
        }

        private static void state(boolean ok) {
            if (!ok) {
                throw new IllegalStateException();
            }
        }

        private static void element(boolean ok) {
            if (!ok) {
                throw new java.util.NoSuchElementException();
            }
        }

        boolean isHeading(int h) {
            return h >= 0 && h < now.headings.size();
        }

        private static boolean isCountry(int c) {
            return c >= 0 && c <= 7;
        }

        private List<Integer> way(int h) {
            List<Integer> way = new ArrayList<>();
            for (int at = h; at >= 0; at = now.headings.get(at).parent()) {
                way.add(at);
            }
            return way;
        }

        String code(int h) {
            StringBuilder code = new StringBuilder();
            for (int at : way(h)) {
                code.insert(0, now.headings.get(at).digit());
            }
            return code.toString();
        }

        int children(int h) {
            return (int) now.headings.stream().filter(x -> x.parent() == h).count();
        }

        private int rateOn(int h) {
            return way(h).stream().map(x -> now.headings.get(x).rate()).filter(r -> r >= 0).findFirst().orElse(0);
        }

        int heading(int parent, int digit) {
            index(parent == -1 || isHeading(parent));
            argument(digit >= 1 && digit <= 9
                    && now.headings.stream().noneMatch(x -> x.parent() == parent && x.digit() == digit));
            state(now.headings.size() < 20 && (parent == -1 || way(parent).size() < 4));
            change();
            now.headings.add(new Heading(parent, digit, -1));
            return now.headings.size() - 1;
        }

        int rate(int h, int rate) {
            index(isHeading(h));
            argument(rate >= -1 && rate <= 1000);
            change();
            Heading old = now.headings.get(h);
            now.headings.set(h, new Heading(old.parent(), old.digit(), rate));
            return old.rate();
        }

        int told(int h, int what) {
            index(isHeading(h));
            argument(what >= 0 && what <= 6);
            Heading x = now.headings.get(h);
            int[] all = {x.parent(), x.digit(), x.rate(), rateOn(h), children(h), code(h).length(),
                Integer.parseInt(code(h))};
            return all[what];
        }

        int find(int code) {
            for (int h = 0; h < now.headings.size(); h++) {
                if (code(h).equals(String.valueOf(code))) {
                    return h;
                }
            }
            throw new java.util.NoSuchElementException();
        }

        int prefer(int h, int c, int rate, int need) {
            index(isHeading(h) && isCountry(c));
            argument(rate >= 0 && rate <= 1000 && need >= 0 && need <= 2);
            state(now.preferences.size() < 10);
            change();
            now.preferences.add(new Preference(h, c, rate, need));
            return now.preferences.size() - 1;
        }

        int drop(int p) {
            index(p >= 0 && p < now.preferences.size());
            change();
            now.preferences.remove(p);
            return now.preferences.size();
        }

        int suspend(int h, int first, int last) {
            index(isHeading(h));
            argument(first >= 0 && first <= last && last <= 999);
            state(now.suspensions.size() < 6);
            change();
            now.suspensions.add(new Suspension(h, first, last));
            return now.suspensions.size() - 1;
        }

        int quota(int h, int c, int units, int rate, int last) {
            index(isHeading(h) && (c == -1 || isCountry(c)));
            argument(units >= 1 && units <= 9999 && rate >= 0 && rate <= 1000 && last >= now.day && last <= 999);
            state(now.quotas.size() < 6);
            change();
            now.quotas.add(new Quota(h, c, units, rate, now.day, last));
            return now.quotas.size() - 1;
        }

        /** Units are not counted on: they are summed from the declarations. */
        private int gotFrom(int q) {
            return now.declarations.stream().filter(d -> d.quota == q).mapToInt(d -> d.got).sum();
        }

        private int lostFrom(int q) {
            return now.declarations.stream().filter(d -> d.quota == q && d.unitsLost).mapToInt(d -> d.unitsBefore)
                    .sum();
        }

        private int left(int q) {
            return now.quotas.get(q).units() - gotFrom(q) - lostFrom(q);
        }

        int quotaTold(int q, int what) {
            index(q >= 0 && q < now.quotas.size());
            argument(what >= 0 && what <= 8);
            Quota x = now.quotas.get(q);
            int[] all = {x.heading(), x.country(), x.units(), x.rate(), x.first(), x.last(), left(q), gotFrom(q),
                lostFrom(q)};
            return all[what];
        }

        int set(int what, int value) {
            argument(what >= 0 && what <= 2);
            int[][] ranges = {{30, 100}, {0, 99}, {0, 99999}};
            argument(value >= ranges[what][0] && value <= ranges[what][1]);
            change();
            int old = now.settings[what];
            now.settings[what] = value;
            return old;
        }

        private boolean meets(int proof, int need, int value) {
            return switch (proof) {
                case 1 -> true;
                case 2 -> need == 0 || need == 2 && value <= now.settings[2];
                default -> need == 0;
            };
        }

        private List<Integer> goodsRates(int h, int c, int value, int proof, int day) {
            List<Integer> way = way(h);
            List<Integer> rates = new ArrayList<>();
            rates.add(rateOn(h));
            rates.add(now.preferences.stream()
                    .filter(p -> way.contains(p.heading()) && p.country() == c && meets(proof, p.need(), value))
                    .mapToInt(Preference::rate).min().orElse(5000));
            rates.add(now.suspensions.stream()
                    .anyMatch(s -> way.contains(s.heading()) && s.first() <= day && day <= s.last()) ? 0 : 5000);
            return rates;
        }

        private void goods(int h, int c, int value, int proof) {
            index(isHeading(h) && isCountry(c));
            argument(value >= 1 && value <= 99999 && proof >= 0 && proof <= 2);
        }

        int rateOf(int h, int c, int value, int proof) {
            goods(h, c, value, proof);
            return java.util.Collections.min(goodsRates(h, c, value, proof, now.day));
        }

        int comesFrom(int h, int c, int value, int proof) {
            goods(h, c, value, proof);
            List<Integer> rates = goodsRates(h, c, value, proof, now.day);
            return rates.indexOf(java.util.Collections.min(rates));
        }

        int missed(int h, int c, int value, int proof) {
            int rate = rateOf(h, c, value, proof);
            int best = -1;
            for (int p = now.preferences.size() - 1; p >= 0; p--) {
                Preference x = now.preferences.get(p);
                if (way(h).contains(x.heading()) && x.country() == c && !meets(proof, x.need(), value)
                        && (best < 0 || x.rate() <= now.preferences.get(best).rate())) {
                    best = p;
                }
            }
            element(best >= 0 && now.preferences.get(best).rate() < rate);
            return best;
        }

        int part(int c, int value) {
            index(isCountry(c));
            argument(value >= 1 && value <= 9999);
            state(now.parts.size() < 4);
            change();
            now.parts.add(new Part(c, value));
            return now.parts.size();
        }

        int forget() {
            change();
            int size = now.parts.size();
            now.parts.clear();
            return size;
        }

        private int originOf(List<Part> parts) {
            int[] amounts = new int[8];
            int value = 0;
            for (Part p : parts) {
                amounts[p.country()] += p.value();
                value += p.value();
            }
            int best = -1;
            for (int c = 7; c >= 0; c--) {
                if (amounts[c] * 100L >= (long) now.settings[0] * value && (best < 0 || amounts[c] >= amounts[best])) {
                    best = c;
                }
            }
            return best < 0 ? parts.get(parts.size() - 1).country() : best;
        }

        int origin() {
            element(!now.parts.isEmpty());
            return originOf(now.parts);
        }

        private void checkDeclare(int h, int quantity, int proof, int quota, List<Part> parts) {
            index(isHeading(h) && quota >= -1 && quota < now.quotas.size());
            argument(quantity >= 1 && quantity <= 999 && proof >= 0 && proof <= 2);
            state(children(h) == 0 && !parts.isEmpty() && now.declarations.size() < 30);
        }

        private void enter(int h, int quantity, int proof, int quota, List<Part> parts) {
            Declaration d = new Declaration();
            d.heading = h;
            d.quantity = quantity;
            d.value = parts.stream().mapToInt(Part::value).sum();
            d.origin = originOf(parts);
            d.proof = proof;
            d.quota = quota;
            d.day = now.day;
            now.declarations.add(d);
        }

        int declare(int h, int quantity, int proof, int quota) {
            checkDeclare(h, quantity, proof, quota, now.parts);
            change();
            enter(h, quantity, proof, quota, now.parts);
            now.parts.clear();
            return now.declarations.size() - 1;
        }

        int declaration(int at, int what) {
            index(at >= 0 && at < now.declarations.size());
            argument(what >= 0 && what <= 14);
            Declaration d = now.declarations.get(at);
            int given = d.foundFirst + d.foundSecond - keptFor(d);
            int[] all = {d.heading, d.quantity, d.value, d.origin, d.proof, d.quota, d.day, d.status, d.got, d.first,
                d.second, given, d.rate, d.from, d.reason};
            return all[what];
        }

        private int keptFor(Declaration d) {
            return d.status == 1 ? d.first + d.second : 0;
        }

        private int reason(Declaration d, int left) {
            Quota q = now.quotas.get(d.quota);
            int rate = java.util.Collections.min(goodsRates(d.heading, d.origin, d.value, d.proof, d.day));
            boolean[] bad = {!way(d.heading).contains(q.heading()), q.country() >= 0 && q.country() != d.origin,
                d.day < q.first() || d.day > q.last(), q.rate() >= rate, left < 1};
            for (int i = 0; i < bad.length; i++) {
                if (bad[i]) {
                    return i + 1;
                }
            }
            return 0;
        }

        int claim(int at) {
            index(at >= 0 && at < now.declarations.size());
            Declaration d = now.declarations.get(at);
            state(d.status == 0 && d.quota >= 0);
            return reason(d, left(d.quota));
        }

        int leftThen(int q) {
            index(q >= 0 && q < now.quotas.size());
            State present = now;
            now = now.copy();
            endDay();
            int left = left(q);
            now = present;
            return left;
        }

        private int endDay() {
            List<Declaration> lodged = now.declarations.stream().filter(d -> d.status == 0).toList();
            for (int q = 0; q < now.quotas.size(); q++) {
                int quota = q;
                int left = left(q);
                List<Declaration> good = new ArrayList<>();
                for (Declaration d : lodged) {
                    if (d.quota == quota) {
                        d.reason = reason(d, left);
                        if (d.reason == 0) {
                            good.add(d);
                        }
                    }
                }
                long sum = good.stream().mapToLong(d -> d.quantity).sum();
                for (Declaration d : good) {
                    d.got = sum <= left ? d.quantity : (int) ((long) d.quantity * left / sum);
                }
                if (sum > left) {
                    for (Declaration d : good) {
                        if (left(q) > 0) {
                            d.got++;
                        }
                    }
                }
            }
            for (Declaration d : lodged) {
                d.status = 1;
                d.first = d.quota < 0 ? 0 : inQuota(d) * now.quotas.get(d.quota).rate() / 1000;
                List<Integer> rates = goodsRates(d.heading, d.origin, d.value, d.proof, d.day);
                d.rate = java.util.Collections.min(rates);
                d.from = rates.indexOf(d.rate);
                d.second = (d.value - inQuota(d)) * d.rate / 1000;
                d.foundFirst = d.first;
                d.foundSecond = d.second;
            }
            return lodged.size();
        }

        private int inQuota(Declaration d) {
            return d.value * d.got / d.quantity;
        }

        int pass(int days) {
            argument(days >= 1 && days <= 99);
            state(now.day + days <= 999);
            change();
            int settled = endDay();
            now.day += days;
            return settled;
        }

        private Declaration changeable(int at) {
            Declaration d = now.declarations.get(at);
            int reason = d.status == 0 ? 1 : d.status == 2 ? 2 : now.day - d.day > now.settings[1] ? 3 : 0;
            if (reason > 0) {
                refused = reason;
                throw new UnsupportedOperationException();
            }
            change();
            return d;
        }

        int refund(int at) {
            index(at >= 0 && at < now.declarations.size());
            Declaration d = changeable(at);
            int back = keptFor(d);
            d.status = 2;
            d.unitsBefore = d.got;
            d.unitsLost = d.quota >= 0 && now.day > now.quotas.get(d.quota).last();
            d.got = 0;
            return back;
        }

        int prove(int at, int proof) {
            index(at >= 0 && at < now.declarations.size());
            argument(proof == 1 || proof == 2);
            Declaration d = changeable(at);
            d.proof = proof;
            List<Integer> rates = goodsRates(d.heading, d.origin, d.value, d.proof, d.day);
            int rate = java.util.Collections.min(rates);
            int second = (d.value - inQuota(d)) * rate / 1000;
            if (second >= d.second) {
                return 0;
            }
            int back = d.second - second;
            d.second = second;
            d.rate = rate;
            d.from = rates.indexOf(rate);
            return back;
        }

        int refusal() {
            element(refused > 0);
            return refused;
        }

        private int withStatus(int status) {
            return (int) now.declarations.stream().filter(d -> d.status == status).count();
        }

        int account(int what) {
            argument(what >= 0 && what <= 11);
            int found = now.declarations.stream().mapToInt(d -> d.foundFirst + d.foundSecond).sum();
            int keptNow = now.declarations.stream().mapToInt(this::keptFor).sum();
            int[] all = {now.headings.size(), now.preferences.size(), now.suspensions.size(), now.quotas.size(),
                now.declarations.size(), withStatus(0), withStatus(1), withStatus(2), found, found - keptNow, now.day,
                now.parts.size()};
            return all[what];
        }

        int kept(int c) {
            index(isCountry(c));
            return now.declarations.stream().filter(d -> d.origin == c).mapToInt(this::keptFor).sum();
        }

        int keptUnder(int h) {
            index(isHeading(h));
            return now.declarations.stream().filter(d -> way(d.heading).contains(h)).mapToInt(this::keptFor).sum();
        }

        double givenBack() {
            if (account(8) == 0) {
                throw new ArithmeticException();
            }
            return (double) account(9) / (double) account(8);
        }

        float meanRate() {
            int value = now.declarations.stream().filter(d -> d.status > 0).mapToInt(d -> d.value).sum();
            if (withStatus(1) + withStatus(2) == 0) {
                throw new ArithmeticException();
            }
            return (float) (account(8) - account(9)) / (float) value;
        }

        int append(char character) {
            argument(character >= 33 && character <= 126);
            state(buffer.length() < 60);
            buffer += character;
            return buffer.length();
        }

        /** The first prefix that no text begins with ends with the character in error. */
        private int errorOf(String text) {
            if (TEXT.matcher(text).matches()) {
                return -1;
            }
            for (int length = 1; length <= text.length(); length++) {
                Matcher matcher = TEXT.matcher(text.substring(0, length));
                if (!matcher.matches() && !matcher.hitEnd()) {
                    return length - 1;
                }
            }
            return text.length();
        }

        int lodge() {
            String text = buffer;
            buffer = "";
            int position = errorOf(text);
            if (position >= 0) {
                error = position;
                throw new IllegalArgumentException();
            }
            String[] entries = text.split(";");
            for (String entry : entries) {
                find(Integer.parseInt(entry.substring(0, entry.indexOf('x'))));
            }
            State present = now;
            now = now.copy();
            try {
                for (String entry : entries) {
                    declareText(entry);
                }
            } catch (IndexOutOfBoundsException | IllegalArgumentException | IllegalStateException e) {
                now = present;
                throw new IllegalStateException();
            }
            State later = now;
            now = present;
            change();
            now = later;
            return entries.length;
        }

        private void declareText(String entry) {
            String[] ends = entry.split("#");
            String[] middle = ends[0].split("!");
            String[] halves = middle[0].split("@");
            String[] head = halves[0].split("x");
            List<Part> parts = new ArrayList<>();
            for (String part : halves[1].split("[+]")) {
                Part p = new Part(Integer.parseInt(part.substring(0, 1)), Integer.parseInt(part.substring(2)));
                index(isCountry(p.country()));
                argument(p.value() >= 1 && p.value() <= 9999);
                parts.add(p);
            }
            int h = find(Integer.parseInt(head[0]));
            int quantity = Integer.parseInt(head[1]);
            int proof = middle.length > 1 ? Integer.parseInt(middle[1]) : 0;
            int quota = ends.length > 1 ? Integer.parseInt(ends[1]) : -1;
            checkDeclare(h, quantity, proof, quota, parts);
            enter(h, quantity, proof, quota, parts);
        }

        int errorPosition() {
            element(error >= 0);
            return error;
        }

        int changes() {
            return before.size();
        }

        int undo() {
            state(!before.isEmpty());
            now = before.remove(before.size() - 1);
            return before.size();
        }

        int save() {
            saved = now.copy();
            return now.declarations.size();
        }

        int restore() {
            state(saved != null);
            change();
            now = saved.copy();
            return now.declarations.size();
        }
    }
}
