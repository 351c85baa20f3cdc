import java.util.*;

/**
 * Drawn runs of calls on ChangePlaces and on Plain: all answers must be alike.
 * Arguments, if any: how many runs, and the first run's number.
 */
public final class AgainstPlainTest {
    private final Random random;
    private final ChangePlaces x = new ChangePlaces();
    private final Plain plain = new Plain();
    private final List<String> told = new ArrayList<>();
    private int calls = 0;
    private boolean wrong = false;

    private AgainstPlainTest(long seed) {
        random = new Random(seed);
    }

    public static void main(String[] args) {
        int runs = args.length > 0 ? Integer.parseInt(args[0]) : 250;
        int first = args.length > 1 ? Integer.parseInt(args[1]) : 1;
        int bad = 0;
        for (int run = first; run < first + runs && bad < 5; run++) {
            AgainstPlainTest test = new AgainstPlainTest(run);
            test.live();
            if (test.wrong) {
                bad++;
                System.out.println("run " + run + ":");
                for (String line : test.told) System.out.println("  " + line);
            }
        }
        if (bad > 0) System.exit(1);
    }

    private void same(String call, long got, long want) {
        calls++;
        told.add(call + " = " + got);
        if (got != want) {
            wrong = true;
            told.add("   ^ due is " + want);
        }
    }

    private int r(int n) { return random.nextInt(n); }
    private boolean once(int in) { return r(in) == 0; }

    private void live() {
        int kind = r(8);
        if (!once(12)) tellCountry(kind);
        for (int i = once(2) ? r(60) : 0; i > 0 && plain.n() > 0; i--) {
            int a = p(), q = q(), n = r(once(2) ? 10 : 100);
            same("desire(" + a + "," + q + "," + n + ")", x.desire(a, q, n), plain.desire(a, q, n));
        }
        for (int i = r(4); i > 0; i--) tellRule();
        if (plain.rules.size() > 0) doForce();
        int dear = 0;
        while (calls < 500 && !wrong) {
            int k = r(100);
            if (k < 1 && once(2)) tellCountry(kind);
            else if (k < 2) tellRule();
            else if (k < 3) doForce();
            else if (k < 30) hand();
            else if (k < 55) look();
            else if (k < 65) book();
            else if (k < 68) images();
            else if (k < 90) cheapQuestions();
            else if (dear < 25) { dear++; dearQuestions(); }
            else look();
        }
    }

    // ---------------------------------------------------------------- texts

    private void tell(String text) {
        if (text.length() > 400) text = text.substring(0, 400);
        if (plain.tape.length() > 0 && (once(4) ? feed(0) : true)) end(0);
        for (int i = 0; i < text.length(); i += 20) {
            int[] v = new int[5];
            for (int j = 0; j < 20; j++) {
                int c = i + j < text.length() ? text.charAt(i + j) : 0;
                v[j / 4] |= c << 24 - 8 * (j % 4);
            }
            same("feed(" + Arrays.toString(v) + ")", x.feed(v[0], v[1], v[2], v[3], v[4]), plain.feed(v));
        }
        end(text.length());
        told.add("text: " + text);
    }

    private boolean feed(int v) {
        same("feed(..)", x.feed(v, 1, 2, -3, 4), plain.feed(v, 1, 2, -3, 4));
        return true;
    }

    private void end(int n) {
        same("end(" + n + ")", x.end(n), plain.end(n));
    }

    private String blank() {
        return once(6) ? "  " : once(12) ? "" : " ";
    }

    private void tellCountry(int kind) {
        StringBuilder b = new StringBuilder();
        int places = 2 + r(7);
        int people = once(15) ? 0 : kind == 7 ? 7 + r(4) : 2 + r(6);
        b.append("places").append(blank()).append(places);
        for (int p = 0; p < people; p++) {
            int at = once(3) ? p % places : r(places);
            b.append(";person").append(blank()).append(at).append(' ').append(1 + r(once(2) ? 99 : 9));
        }
        for (int i = r(kind == 7 ? 14 : 22); i > 0 && people > 0 && b.length() < 370; i--) {
            b.append(once(9) ? " ; wish " : ";wish ").append(r(people)).append(' ').append(r(places)).append(' ').append(1 + r(once(2) ? 5 : 99));
        }
        for (int i = kind >= 5 && kind < 7 ? r(8) : r(2); i > 0 && people > 0; i--) b.append(";bench ").append(r(people));
        for (int i = r(4); i > 0 && b.length() < 390; i--) b.append(";call ").append(r(places));
        String text = b.toString();
        if (once(3)) text = spoiltCountry(text, people);
        tell(text);
        same("country()", x.country(), plain.country());
    }

    private String spoiltCountry(String text, int people) {
        switch (r(8)) {
            case 0: return text.replaceFirst(";", ";places 3;");
            case 1: return "call 1;" + text;
            case 2: {
                StringBuilder b = new StringBuilder("places 2");
                for (int i = 0; i < 9 + r(3); i++) b.append(";person 1 5");
                return b + ";call 0";
            }
            case 3: {
                StringBuilder b = new StringBuilder("places 2");
                for (int i = 0; i < 7 + r(3); i++) b.append(";call 1");
                return b + (once(2) ? "" : ";person 0 1");
            }
            case 4: {
                StringBuilder b = new StringBuilder("places 2;person 0 1");
                for (int i = 0; i < 45 + r(3); i++) b.append(";bench0");
                return b + (once(2) ? "" : once(2) ? ";bench 0" : ";benc 0");
            }
            default: return spoilt(text);
        }
    }

    private String spoilt(String text) {
        StringBuilder b = new StringBuilder(text);
        String signs = " ;<>=+-*/[]0123459abciortwn" + (char) 200 + (char) 0 + "A";
        for (int i = 1 + r(2); i > 0 && b.length() > 0; i--) {
            int at = r(b.length());
            char c = signs.charAt(r(signs.length()));
            int how = r(5);
            if (how == 0) b.deleteCharAt(at);
            else if (how == 1) b.insert(at, c);
            else if (how == 2) b.setCharAt(at, c);
            else if (how == 3) b.setLength(at);
            else b.insert(at, new String[] {"99999", "100000", "not ", "[", " or ", "];", "bar", "if", "9"}[r(9)]);
        }
        return b.toString();
    }

    private void tellRule() {
        StringBuilder b = new StringBuilder();
        int clauses = 1 + r(4);
        if (once(30)) clauses = 11 + r(3);
        for (int i = 0; i < clauses; i++) {
            if (i > 0) b.append(once(3) ? " ; " : ";");
            if (once(3)) b.append("bar ").append(narrow());
            else if (once(4)) b.append("want wish").append(once(2) ? "" : " if ").append(b.charAt(b.length() - 1) == ' ' ? test(1) : "");
            else b.append("want ").append(sum()).append(once(4) ? "" : " if " + test(2));
        }
        if (once(25)) b.append(";bar ").append("not ".repeat(r(6))).append("[".repeat(3 + r(6))).append("1=1").append("]".repeat(3 + r(6)));
        if (once(25)) {
            b.setLength(0);
            b.append("want 1");
            for (int i = 0; i < 55 + r(8); i++) b.append(once(20) ? "-day" : "+1");
            b.append(once(2) ? "" : " if 1=1");
        }
        String text = once(2) ? lively() : b.toString();
        if (once(6)) text = spoilt(text);
        tell(text);
        same("rule()", x.rule(), plain.rule());
    }

    /** A RULE by which many would go. */
    private String lively() {
        String bar = once(2) ? ";bar " + narrow() : "";
        switch (r(6)) {
            case 0: return "want 9 if not to = at;want 0" + bar;
            case 1: return "want 9*wish+5 if not to=at;want " + r(9) + bar;
            case 2: return "want to * " + r(9) + " - person * to * " + r(3) + " + wish if to >= at or moved < " + r(4) + bar;
            case 3: return "want 1 + wish if to > at; want 5 if at - to > " + r(4) + ";want 0-1" + bar;
            case 4: return "want to*to*" + r(5) + "-to*" + r(20) + " + owes*to" + bar;
            default: return "want wish*" + r(4) + "+to*person-home*to+" + r(9) + " if to<" + r(8) + " or to>at" + bar;
        }
    }

    private String narrow() {
        switch (r(6)) {
            case 0: return "with = " + r(6);
            case 1: return "ring > " + (2 + r(3));
            case 2: return "other > weight + " + r(30);
            case 3: return "person=" + r(6) + " and to=" + r(5);
            case 4: return "owes > " + r(60) + " or moved>=" + (1 + r(5));
            default: return test(2) + " and " + test(2);
        }
    }

    private String test(int deep) {
        switch (deep > 0 ? r(6) : 5) {
            case 0: return test(deep - 1) + " or " + test(deep - 1);
            case 1: return test(deep - 1) + " and " + test(deep - 1);
            case 2: return "not " + test(deep - 1);
            case 3: return "[" + test(deep - 1) + "]";
            default: return sum() + new String[] {"<", "<=", "=", ">=", ">", " < ", " >= "}[r(7)] + sum();
        }
    }

    private String sum() {
        StringBuilder b = new StringBuilder(value());
        for (int i = r(3); i > 0; i--) b.append("+-*/ *+-".charAt(r(4))).append(value());
        return b.toString();
    }

    private String value() {
        if (once(3)) return "" + (once(8) ? r(100000) : r(12));
        return Plain.WORDS.get(r(12));
    }

    private void doForce() {
        int rule = r(plain.rules.size() + 3) - 2;
        same("force(" + rule + ")", x.force(rule), plain.force(rule));
    }

    // ---------------------------------------------------------------- calls

    private int p() { return once(25) ? r(14) - 2 : plain.n() == 0 ? 0 : r(plain.n()); }
    private int q() { return once(25) ? r(12) - 2 : plain.w.places == 0 ? 0 : r(plain.w.places); }

    private void callRing() {
        if (!once(4)) same("call(-1)", x.call(-1), plain.call(-1));
        if (once(2) && plain.n() > 1) {
            List<List<Integer>> all = plain.changersAt(plain.w.spots());
            if (!all.isEmpty()) {
                for (int one : all.get(r(all.size()))) same("call(" + one + ")", x.call(one), plain.call(one));
                return;
            }
        }
        for (int i = once(9) ? 7 : 1 + r(4); i > 0; i--) {
            int one = p();
            same("call(" + one + ")", x.call(one), plain.call(one));
        }
    }

    private void hand() {
        int a = p(), b = p(), n;
        switch (r(12)) {
            case 0: case 1: case 2: case 3: case 4:
                callRing();
                if (once(3)) same("may()", x.may(), plain.may());
                same("go()", x.go(), plain.go());
                break;
            case 5:
                for (int i = once(6) ? 25 : 1 + r(3); i > 0; i--) same("undo()", x.undo(), plain.undo());
                break;
            case 6:
                n = once(4) ? r(100) - 2 : 1 + r(5);
                same("pay(" + a + "," + b + "," + n + ")", x.pay(a, b, n), plain.pay(a, b, n));
                break;
            case 7:
                if (once(2)) lendInRings();
                if (once(3)) same("strike()", x.strike(), plain.strike());
                break;
            case 8:
                same("dawn()", x.dawn(), plain.dawn());
                break;
            case 9:
                n = once(20) ? r(200) - 50 : r(once(2) ? 10 : 100);
                int q = q();
                same("desire(" + a + "," + q + "," + n + ")", x.desire(a, q, n), plain.desire(a, q, n));
                break;
            case 10:
                n = once(5) ? -r(5) : random.nextInt();
                same("seed(" + n + ")", x.seed(n), plain.seed(n));
                break;
            default:
                same("may()", x.may(), plain.may());
        }
    }

    /**
     * By RINGS the heavier OWES the lighter alone, so that debts never close to a ring, and STRUCK
     * could not be seen at work: these are put in from behind.
     */
    private void lendInRings() {
        if (plain.n() < 2) return;
        for (int i = once(3) ? 30 : 6; i > 0; i--) {
            int a = r(plain.n()), b = r(plain.n()), n = 1 + r(9);
            if (a == b) continue;
            plain.w.owed[a][b] += n;
            try {
                java.lang.reflect.Field f = ChangePlaces.class.getDeclaredField("state");
                f.setAccessible(true);
                Object state = f.get(x);
                f = state.getClass().getDeclaredField("now");
                f.setAccessible(true);
                Object now = f.get(state);
                java.lang.reflect.Method m = now.getClass().getDeclaredMethod("addDebt", int.class, int.class, int.class);
                m.setAccessible(true);
                m.invoke(now, a, b, n);
            } catch (ReflectiveOperationException e) {
                throw new IllegalStateException(e);
            }
            told.add("debt of " + a + " to " + b + ": " + n);
        }
        // So that what hangs on debts is worked out anew.
        same("dawn()", x.dawn(), plain.dawn());
    }

    private void look() {
        int a = p(), b = p(), q = q(), n;
        switch (r(7)) {
            case 0: n = r(10) - 1; same("person(" + a + "," + n + ")", x.person(a, n), plain.person(a, n)); break;
            case 1: same("wish(" + a + "," + q + ")", x.wish(a, q), plain.wish(a, q)); break;
            case 2: same("liking(" + a + "," + q + ")", x.liking(a, q), plain.liking(a, q)); break;
            case 3: n = r(6) - 1; same("place(" + q + "," + n + ")", x.place(q, n), plain.place(q, n)); break;
            case 4: same("owes(" + a + "," + b + ")", x.owes(a, b), plain.owes(a, b)); break;
            case 5: n = r(16) - 1; same("count(" + n + ")", x.count(n), plain.count(n)); break;
            default: same("found(" + a + "," + (q - 1) + ")", x.found(a, q - 1) ? 1 : 0, plain.found(a, q - 1) ? 1 : 0);
        }
    }

    private void book() {
        int n;
        switch (r(8)) {
            case 0: case 1: case 2: callRing(); same("book()", x.book(), plain.book()); break;
            case 3: if (once(5)) same("burn()", x.burn(), plain.burn()); break;
            case 4: n = r(4) - 1; same("judged(" + n + ")", x.judged(n), plain.judged(n)); break;
            case 5: n = p(); same("then(" + n + ")", x.then(n), plain.then(n)); break;
            case 6: same("book()", x.book(), plain.book()); break;
            default: n = r(14) - 2; same("laidOut(" + n + ")", x.laidOut(n), plain.laidOut(n));
        }
    }

    private void images() {
        int k = once(8) ? r(8) - 2 : r(4);
        if (once(2)) same("image(" + k + ")", x.image(k), plain.image(k));
        else same("back(" + k + ")", x.back(k), plain.back(k));
    }

    private void cheapQuestions() {
        int n = r(12) - 2, k, m;
        switch (r(8)) {
            case 0: case 1: k = r(5) - 1; same("changers(" + n + "," + k + ")", x.changers(n, k), plain.changers(n, k)); break;
            case 2: n = p(); same("core(" + n + ")", x.core(n), plain.core(n)); break;
            case 3: same("doctors(" + n + ")", x.doctors(n), plain.doctors(n)); break;
            case 4: n = once(9) ? random.nextInt() : r(300) - 5; same("served(" + n + ")", x.served(n), plain.served(n)); break;
            case 5: same("blocks(0)", x.blocks(0), plain.blocks(0)); break;
            case 6: n = p(); same("lie(1," + n + ")", x.lie(1, n), plain.lie(1, n)); break;
            default:
                m = once(9) ? r(30) - 3 : 1 + r(4);
                n = once(9) ? r(220) - 3 : 1 + r(20);
                k = r(once(9) ? 5 : 3);
                same("years(" + m + "," + n + "," + k + ")", x.years(m, n, k), plain.years(m, n, k));
        }
    }

    private void dearQuestions() {
        int a = p(), q = q(), n = r(6), k = r(4) - (once(5) ? 1 : 0);
        switch (r(10)) {
            case 0: n = n == 4 && plain.n() > 7 ? 3 : n; same("most(" + n + "," + k + ")", x.most(n, k), plain.most(n, k)); break;
            case 1: n = n == 4 && plain.n() > 7 ? 3 : n; same("mostOf(" + n + "," + a + ")", x.mostOf(n, a), plain.mostOf(n, a)); break;
            case 2: n = n == 4 && plain.n() > 7 ? 3 : n; same("blocks(" + n + ")", x.blocks(n), plain.blocks(n)); break;
            case 3: same("journey(" + a + "," + q + ")", x.journey(a, q), plain.journey(a, q)); break;
            case 4: case 5:
                for (int i = -1; i < 3; i++) {
                    int what = once(9) ? r(5) - 2 : r(2);
                    same("row(" + a + "," + q + "," + i + "," + what + ")", x.row(a, q, i, what), plain.row(a, q, i, what));
                }
                break;
            case 6: n = once(3) ? -1 : a; same("reached(" + n + ")", x.reached(n), plain.reached(n)); break;
            case 7: case 8:
                same("found(" + a + "," + q + ")", x.found(a, q) ? 1 : 0, plain.found(a, q) ? 1 : 0);
                for (int i = 0; i < 3; i++) same("done(" + i + ")", x.done(i), plain.done(i));
                same("done(" + k + ")", x.done(k), plain.done(k));
                break;
            default:
                n = r(4) - 1;
                same("liars(" + n + ")", x.liars(n), plain.liars(n));
                same("lie(" + n + "," + a + ")", x.lie(n, a), plain.lie(n, a));
        }
    }
}
