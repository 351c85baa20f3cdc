import java.util.ArrayList;
import java.util.List;

/**
 * What the tests of edges share. Each edge is tested under the document's sentence that names it; what must
 * stay when a call is refused is seen by looking at two objects made alike from all sides, one of which
 * had the refused call.
 */
abstract class Edges {
    static final int NONE = ChangePlaces.NONE;
    static final int FAR_BELOW = Integer.MIN_VALUE;
    static final int FAR_ABOVE = Integer.MAX_VALUE;
    /** All LIKE all other PLACES by 9, where they are by 0. */
    static final String RESTLESS = "want 9 if not to = at; want 0";

    private static String sentence = "";
    private static int sentences = 0;
    private static int wrong = 0;

    interface Make {
        ChangePlaces made();
    }

    interface Call {
        long on(ChangePlaces x);
    }

    /** What is due from here on is what this sentence of the document says. */
    static void sentence(String words) {
        sentence = words;
        sentences++;
    }

    static void due(String call, long got, long want) {
        if (got != want) {
            tellWrong(call + " answered " + got + ", due is " + want);
        }
    }

    static void due(String call, boolean got, boolean want) {
        if (got != want) {
            tellWrong(call + " answered " + got + ", due is " + want);
        }
    }

    private static void tellWrong(String what) {
        wrong++;
        System.out.println("\"" + sentence + "\": " + what);
    }

    static void finish() {
        System.out.println(wrong == 0 ? "all edges of " + sentences + " sentences hold" : wrong + " answers are not as due");
        if (wrong != 0) {
            System.exit(1);
        }
    }

    // ---- making

    static void say(ChangePlaces x, String text) {
        x.end(0);
        for (int i = 0; i < text.length(); i += 20) {
            int[] v = new int[5];
            for (int j = 0; j < 20; j++) {
                v[j / 4] = v[j / 4] << 8 | (i + j < text.length() ? text.charAt(i + j) & 255 : 0);
            }
            x.feed(v[0], v[1], v[2], v[3], v[4]);
        }
        if (x.end(text.length()) != text.length()) {
            tellWrong("the TAPE does not take " + text);
        }
    }

    static ChangePlaces land(String text) {
        ChangePlaces x = new ChangePlaces();
        say(x, text);
        if (x.country() < 0) {
            tellWrong("no COUNTRY of " + text);
        }
        return x;
    }

    static ChangePlaces land(String text, String rule) {
        ChangePlaces x = land(text);
        force(x, rule);
        return x;
    }

    static int tellRule(ChangePlaces x, String text) {
        say(x, text);
        int number = x.rule();
        if (number < 0) {
            tellWrong("no RULE of " + text);
        }
        return number;
    }

    static int force(ChangePlaces x, String text) {
        int number = tellRule(x, text);
        x.force(number);
        return number;
    }

    static void callAll(ChangePlaces x, int... people) {
        x.call(NONE);
        for (int person : people) {
            x.call(person);
        }
    }

    static int ring(ChangePlaces x, int... people) {
        callAll(x, people);
        return x.go();
    }

    static int tell(ChangePlaces x, int... people) {
        callAll(x, people);
        return x.book();
    }

    static String people(int n, String rest) {
        StringBuilder b = new StringBuilder("places 8");
        for (int i = 0; i < n; i++) {
            b.append(";person ").append(i % 8).append(' ').append(i + 1);
        }
        return b.append(rest).toString();
    }

    /** Four PEOPLE in the midst of it: something of all that there is, and two CALLED who can go. */
    static ChangePlaces midst() {
        ChangePlaces x = land("places 4;person 0 10;person 1 6;person 2 8;person 1 50;wish 0 1 9;wish 1 2 5;"
                + "wish 2 0 7;wish 1 0 3;wish 3 0 2;bench 3;call 1;call 2;call 3");
        force(x, "want wish+0*day if day<50;bar person=3 and with=0");
        x.image(0);
        ring(x, 0, 1);
        x.dawn();
        ring(x, 1, 2);
        x.found(0, 1);
        x.found(1, 2);
        x.seed(77);
        tell(x, 0, 1);
        tell(x, 1, 2, 3);
        x.image(2);
        x.desire(3, 2, 44);
        force(x, "want 9 if not to=at;want owes");
        ring(x, 3, 2);
        x.pay(3, 2, 10);
        callAll(x, 0, 3);
        say(x, "want to*3+at-day");
        return x;
    }

    // ---- looking

    /** All that can be seen of an object; its past, IMAGES and TAPE are gone through last, it is used up by that. */
    static List<Integer> sides(ChangePlaces x) {
        List<Integer> seen = new ArrayList<>();
        lookAtNow(x, seen);
        seen.add(x.go());
        lookAtPlaces(x, seen);
        for (int i = 0; i < 21; i++) {
            seen.add(x.undo());
            lookAtPlaces(x, seen);
            if (x.count(8) == 0) {
                break;
            }
        }
        for (int rule = 0; rule < x.count(3); rule++) {
            seen.add(x.force(rule));
            seen.add(x.liking(0, 1));
            seen.add(x.liking(1, 0));
        }
        for (int k = 0; k < 4; k++) {
            seen.add(x.back(k));
            lookAtCounts(x, seen);
            lookAtPlaces(x, seen);
            seen.add(x.wish(3, 2));
        }
        int rule = x.rule();
        seen.add(rule);
        seen.add(rule < 0 ? x.country() : x.force(rule));
        lookAtCounts(x, seen);
        lookAtLikings(x, seen);
        return seen;
    }

    private static void lookAtCounts(ChangePlaces x, List<Integer> seen) {
        for (int what = 0; what < 14; what++) {
            seen.add(x.count(what));
        }
    }

    private static void lookAtPlaces(ChangePlaces x, List<Integer> seen) {
        for (int person = 0; person < x.count(1); person++) {
            seen.add(x.person(person, 0));
            seen.add(x.person(person, 4));
            seen.add(x.person(person, 5));
        }
        seen.add(x.count(5));
        seen.add(x.count(11));
    }

    private static void lookAtLikings(ChangePlaces x, List<Integer> seen) {
        for (int person = 0; person < x.count(1); person++) {
            for (int place = 0; place < x.count(0); place++) {
                seen.add(x.liking(person, place));
            }
        }
    }

    private static void lookAtNow(ChangePlaces x, List<Integer> seen) {
        lookAtCounts(x, seen);
        lookAtLikings(x, seen);
        int people = x.count(1);
        for (int person = 0; person < people; person++) {
            for (int what = 0; what < 8; what++) {
                seen.add(x.person(person, what));
            }
            for (int place = 0; place < x.count(0); place++) {
                seen.add(x.wish(person, place));
            }
            for (int other = 0; other < people && people < 6; other++) {
                seen.add(x.owes(person, other));
            }
            seen.add(x.then(person));
        }
        for (int place = 0; place < x.count(0); place++) {
            seen.add(x.place(place, 3));
        }
        for (int ring = NONE; ring < x.count(7); ring++) {
            seen.add(x.laidOut(ring));
        }
        seen.add(x.judged(0));
        seen.add(x.judged(1));
        seen.add(x.may());
        seen.add(x.done(0));
        seen.add(x.done(1));
    }

    /** A call that is refused, and what must stay as it was. */
    static void stays(String call, Make make, Call refused, long want) {
        staysBut(call, make, refused, want, x -> 0);
    }

    /** A call that is refused, by which nothing is otherwise than by another call. */
    static void staysBut(String call, Make make, Call refused, long want, Call allowed) {
        ChangePlaces x = make.made();
        due(call, refused.on(x), want);
        ChangePlaces y = make.made();
        allowed.on(y);
        List<Integer> is = sides(x);
        List<Integer> was = sides(y);
        if (!is.equals(was)) {
            tellWrong(call + " changes something: " + is + " was " + was);
        }
    }

    /** By what is asked nothing changes. */
    static void asks(String call, Make make, Call asked) {
        ChangePlaces x = make.made();
        asked.on(x);
        if (!sides(x).equals(sides(make.made()))) {
            tellWrong(call + " changes something");
        }
    }

    /** By a call that is taken something is otherwise: so it can be seen from these sides. */
    static void changes(String call, Make make, Call taken, long want) {
        ChangePlaces x = make.made();
        due(call, taken.on(x), want);
        if (sides(x).equals(sides(make.made()))) {
            tellWrong(call + " changes nothing");
        }
    }

    // ---- what no run of 512 calls can bring about

    static Object inside(Object object, String field) {
        try {
            java.lang.reflect.Field f = object.getClass().getDeclaredField(field);
            f.setAccessible(true);
            return f.get(object);
        } catch (ReflectiveOperationException e) {
            throw new IllegalStateException(e);
        }
    }

    static void setDay(ChangePlaces x, int day) {
        try {
            Object now = inside(inside(x, "state"), "now");
            java.lang.reflect.Field f = now.getClass().getDeclaredField("day");
            f.setAccessible(true);
            f.setInt(now, day);
        } catch (ReflectiveOperationException e) {
            throw new IllegalStateException(e);
        }
    }

    /** Debts that no RING makes: by RINGS the heavier OWES the lighter alone. */
    static void lend(ChangePlaces x, int one, int other, int coal) {
        try {
            Object now = inside(inside(x, "state"), "now");
            java.lang.reflect.Method m = now.getClass().getDeclaredMethod("addDebt", int.class, int.class, int.class);
            m.setAccessible(true);
            m.invoke(now, one, other, coal);
        } catch (ReflectiveOperationException e) {
            throw new IllegalStateException(e);
        }
    }
}
