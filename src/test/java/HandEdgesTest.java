import java.util.ArrayList;
import java.util.List;

/** The edges of what is done by hand: 'Terms' II, and promises 7 to 20, 33, 39 and 41 to 43. */
public final class HandEdgesTest extends Edges {
    private static final int[] STRANGE = {FAR_BELOW, -2, 4, 5, 10, 99, FAR_ABOVE};

    public static void main(String[] args) {
        whatIsLiked();
        held();
        persons();
        wishes();
        likings();
        desires();
        places();
        ringSizes();
        eachTakes();
        lawOne();
        lawTwo();
        lawThree();
        lawsInOrder();
        owed();
        moved();
        called();
        mayAndGo();
        undone();
        undoneTwenty();
        undoneAlone();
        owes();
        paid();
        struck();
        dawns();
        booked();
        withoutCountry();
        founds();
        seeds();
        counts();
        imagesMade();
        imagesHold();
        imagesRefused();
        finish();
    }

    // ---- LIKING

    private static void whatIsLiked() {
        sentence("with a RULE IN FORCE the SUM of its first want CLAUSE without a TEST, or whose TEST holds");
        String text = "places 2;person 0 5;wish 0 0 99;wish 0 1 1";
        due("the first of two", land(text, "want 3;want 4").liking(0, 1), 3);
        due("the first that holds", land(text, "want 3 if 1=2;want 4 if 1=2;want 5 if 1=1;want 6").liking(0, 1), 5);
        due("without a TEST behind one", land(text, "want 3 if to=0;want 4").liking(0, 1), 4);
        due("with a TEST ahead", land(text, "want 3 if to=0;want 4").liking(0, 0), 3);
        due("no bar is asked", land(text, "bar 1=1;want 4;bar 1=1").liking(0, 0), 4);
        due("the twelfth", land(text, "want 3 if 1=2;".repeat(11) + "want 7").liking(0, 0), 7);
        sentence("without one that holds, and without a RULE, the WORTH of the wish (0 none)");
        ChangePlaces x = land(text, "want 3 if 1=2;bar 1=1;want 4 if to=5");
        due("none holds", x.liking(0, 0), 99);
        due("none holds", x.liking(0, 1), 1);
        due("bars alone", land(text, "bar 1=1").liking(0, 1), 1);
        x.force(NONE);
        due("no RULE", x.liking(0, 0), 99);
        x.desire(0, 0, 0);
        due("no wish", x.liking(0, 0), 0);
        x.force(0);
        due("no wish, none holds", x.liking(0, 0), 0);
    }

    private static void held() {
        sentence("held to -999 to 999");
        String text = "places 2;person 0 5";
        int[][] pairs = {{998, 998}, {999, 999}, {1000, 999}, {99999, 999}};
        for (int[] pair : pairs) {
            due("want " + pair[0], land(text, "want " + pair[0]).liking(0, 1), pair[1]);
            due("want 0-" + pair[0], land(text, "want 0-" + pair[0]).liking(0, 1), -pair[1]);
        }
        due("more than 32 bits", land(text, "want 65536*65536+1").liking(0, 1), 999);
        due("less than 32 bits", land(text, "want 0-65536*65536").liking(0, 1), -999);
        due("the greatest of all", land(text, "want 65536*65536*65536*32768-1").liking(0, 1), 999);
        due("the least of all", land(text, "want 65536*65536*65536*32768").liking(0, 1), -999);
        ChangePlaces x = land("places 2;person 0 5;person 1 5", "want 2000 if not to=at;want 1000");
        due("held alike, none is above", x.person(0, 7), 1);
        due("held alike, LAW 2", ring(x, 0, 1), -4);
        force(x, "want 999 if not to=at;want 998");
        due("above by one", ring(x, 0, 1), 0);
        force(x, "want 0-999 if not to=at;want 0-1000");
        due("held alike below", ring(x, 0, 1), -4);
    }

    // ---- promises 7 to 11

    private static void persons() {
        sentence("person: Of a PERSON what 0 .. 7");
        ChangePlaces x = midst();
        int[][] want = {
            {1, 10, 0, 0, 1, 4, 0, 0}, {2, 6, 1, 0, 2, 0, 6, 0}, {1, 8, 2, 0, 2, 2, 32, 0}, {0, 50, 1, 1, 1, 32, 0, 1},
        };
        for (int person = 0; person < 4; person++) {
            for (int what = 0; what < 8; what++) {
                due("person(" + person + ", " + what + ")", x.person(person, what), want[person][what]);
            }
        }
        sentence("person 7: 1 if they are where they LIKE it most (none LIKED more)");
        x = land("places 3;person 1 1;wish 0 1 5;wish 0 2 5");
        due("two alike", x.person(0, 7), 1);
        x.desire(0, 2, 6);
        due("the last one more", x.person(0, 7), 0);
        x.desire(0, 2, 4);
        x.desire(0, 0, 6);
        due("the first one more", x.person(0, 7), 0);
        x.desire(0, 0, 5);
        due("none more", x.person(0, 7), 1);
        due("nothing LIKED", land("places 3;person 1 1").person(0, 7), 1);
        due("at the greatest PLACE", land("places 3;person 2 1", "want to").person(0, 7), 1);
        due("at the one before it", land("places 3;person 1 1", "want to").person(0, 7), 0);
        due("at the least PLACE", land("places 3;person 0 1", "want 9-to").person(0, 7), 1);
        due("the last of all", land(people(10, "").replace("person 1 10", "person 7 10"), "want to").person(9, 7), 1);
        sentence("person: NONE without these");
        ChangePlaces y = midst();
        for (int strange : STRANGE) {
            due("person(" + strange + ", 0)", y.person(strange, 0), NONE);
        }
        for (int what : new int[] {FAR_BELOW, -2, -1, 8, 9, FAR_ABOVE}) {
            due("person(0, " + what + ")", y.person(0, what), NONE);
            due("person(3, " + what + ")", y.person(3, what), NONE);
        }
        due("person(-1, 0)", y.person(-1, 0), NONE);
        due("no PEOPLE", land("places 8").person(0, 0), NONE);
    }

    private static void wishes() {
        sentence("wish: WORTH of a wish (0 none); NONE without these");
        ChangePlaces x = midst();
        due("told", x.wish(1, 2), 5);
        due("none", x.wish(3, 3), 0);
        due("the last PERSON and PLACE", x.wish(3, 2), 44);
        for (int strange : STRANGE) {
            due("wish(" + strange + ", 0)", x.wish(strange, 0), NONE);
            due("wish(0, " + strange + ")", x.wish(0, strange), NONE);
        }
        due("wish(-1, 0)", x.wish(-1, 0), NONE);
        due("wish(0, -1)", x.wish(0, -1), NONE);
    }

    private static void likings() {
        sentence("liking: LIKING; -1000 without these");
        ChangePlaces x = midst();
        due("where they are", x.liking(3, 0), 32);
        due("elsewhere", x.liking(3, 3), 9);
        for (int strange : STRANGE) {
            due("liking(" + strange + ", 0)", x.liking(strange, 0), -1000);
            due("liking(0, " + strange + ")", x.liking(0, strange), -1000);
        }
        due("liking(-1, 0)", x.liking(-1, 0), -1000);
        due("liking(0, -1)", x.liking(0, -1), -1000);
        due("no PEOPLE", land("places 2").liking(0, 0), -1000);
        due("no COUNTRY", new ChangePlaces().liking(0, 0), -1000);
    }

    private static void desires() {
        sentence("desire: A wish becomes so much (0: none; to 99): what it was");
        ChangePlaces x = midst();
        due("the greatest", x.desire(0, 1, 99), 9);
        due("wish", x.wish(0, 1), 99);
        due("none", x.desire(0, 1, 0), 99);
        due("wish", x.wish(0, 1), 0);
        due("from none to the least", x.desire(0, 1, 1), 0);
        due("the same", x.desire(0, 1, 1), 1);
        due("the last of all", x.desire(3, 3, 50), 0);
        due("wish", x.wish(3, 3), 50);
        due("another's", x.wish(2, 3), 0);
        x.force(NONE);
        due("LIKING by it", x.liking(3, 3), 50);
        changes("desire", Edges::midst, y -> y.desire(3, 3, 1), 0);
        sentence("desire: NONE, and nothing happens, without these");
        for (int strange : STRANGE) {
            stays("desire(" + strange + ", 0, 5)", Edges::midst, y -> y.desire(strange, 0, 5), NONE);
            stays("desire(0, " + strange + ", 5)", Edges::midst, y -> y.desire(0, strange, 5), NONE);
        }
        stays("desire(-1, 1, 5)", Edges::midst, y -> y.desire(-1, 1, 5), NONE);
        stays("desire(1, -1, 5)", Edges::midst, y -> y.desire(1, -1, 5), NONE);
        for (int worth : new int[] {FAR_BELOW, -2, -1, 100, 101, FAR_ABOVE}) {
            stays("desire(0, 1, " + worth + ")", Edges::midst, y -> y.desire(0, 1, worth), NONE);
        }
    }

    private static void places() {
        sentence("place: Of a PLACE what 0: who is there .. as bits");
        ChangePlaces x = land(people(10, ";call 7;call 7;call 0"), RESTLESS);
        due("the least and the greatest PERSON's", x.place(0, 0), 1 | 1 << 8);
        due("the greatest bit", x.place(1, 0), 2 | 1 << 9);
        due("the greatest PLACE", x.place(7, 0), 1 << 7);
        due("who elsewhere LIKES it more", x.place(1, 1), 1023 - 2 - 512);
        due("who there LIKES another more", x.place(1, 2), 2 + 512);
        due("calls", x.place(7, 3), 2);
        due("calls", x.place(0, 3), 1);
        due("no calls", x.place(1, 3), 0);
        sentence("place 0: nobody there");
        ChangePlaces y = land("places 3;person 0 1;person 1 1;wish 0 0 5;wish 0 1 5;wish 0 2 6;wish 1 0 5");
        due("who is there", y.place(2, 0), 0);
        due("who there would go", y.place(2, 2), 0);
        sentence("place 1: who elsewhere LIKES it more than where they are");
        due("alike is not more", y.place(1, 1), 0);
        due("more by one", y.place(2, 1), 1);
        due("not who is there", y.place(0, 1), 2);
        sentence("place 2: who there LIKES some other PLACE more");
        due("one", y.place(0, 2), 1);
        y.desire(0, 2, 5);
        due("alike is not more", y.place(0, 2), 0);
        sentence("place: NONE without these");
        for (int strange : new int[] {FAR_BELOW, -2, -1, 4, 8, FAR_ABOVE}) {
            due("place(" + strange + ", 0)", midst().place(strange, 0), NONE);
            due("place(0, " + strange + ")", midst().place(0, strange), NONE);
        }
        due("place(3, 0)", midst().place(3, 0), 0);
        due("place(3, 3)", midst().place(3, 3), 1);
    }

    // ---- RINGS and LAWS

    private static final String SIX = "places 6;person 0 1;person 1 2;person 2 3;person 3 4;person 4 5;person 5 6;person 5 9";

    private static void ringSizes() {
        sentence("A RING of n PEOPLE (2 to 6), all unlike");
        for (int n = 0; n <= 6; n++) {
            int[] row = new int[n];
            for (int i = 0; i < n; i++) {
                row[i] = i;
            }
            boolean can = n >= 2;
            ChangePlaces x = land(SIX, RESTLESS);
            callAll(x, row);
            due("may of " + n, x.may(), can ? 0 : NONE);
            // The last is the heaviest: they take the PLACE of the first.
            due("go of " + n, x.go(), can ? n - 1 : NONE);
            due("RINGS done by " + n, x.count(11), can ? 1 : 0);
            callAll(x, row);
            due("book of " + n, x.book(), can ? 0 : NONE);
        }
        ChangePlaces x = land(SIX, RESTLESS);
        callAll(x, 0, 1, 2, 3, 4, 5);
        due("a seventh", x.call(6), -2);
        due("one of them again", x.call(0), -2);
        due("go of six", x.go(), 5);
        due("the seventh stays", x.person(6, 0), 5);
    }

    private static void eachTakes() {
        sentence("each takes the PLACE of the next one, the last that of the first, all at once");
        ChangePlaces x = land(SIX, RESTLESS);
        ring(x, 5, 0, 3, 1, 4, 2);
        int[] at = {3, 4, 5, 1, 2, 0};
        for (int person = 0; person < 6; person++) {
            due("where " + person + " is", x.person(person, 0), at[person]);
        }
        ring(x, 0, 1);
        due("two", x.person(0, 0), 4);
        due("two", x.person(1, 0), 3);
        ring(x, 2, 1, 0);
        due("three", x.person(2, 0), 3);
        due("three", x.person(1, 0), 4);
        due("three, the last", x.person(0, 0), 5);
    }

    private static int law(String text, String rule, int... people) {
        ChangePlaces x = rule.isEmpty() ? land(text) : land(text, rule);
        callAll(x, people);
        return x.may();
    }

    private static void lawOne() {
        sentence("LAW 1 it is another PLACE");
        String text = "places 2;person 0 1;person 0 1;person 1 1;bench 0;bench 1;bench 2";
        due("the same PLACE", law(text, "", 0, 1), 1);
        due("another PLACE", law(text, "", 0, 2), 0);
        due("of the last and the first alone", law(text, "", 0, 2, 1), 1);
        due("of the middle ones alone", law(text, "", 2, 0, 1), 1);
    }

    private static void lawTwo() {
        sentence("LAW 2 they would go: their LIKING for it is above that for where they are, or they are of the bench");
        String text = "places 2;person 0 1;person 1 1;wish 0 0 5;wish 1 0 1;wish 0 1 ";
        due("less", law(text + "4", "", 0, 1), 2);
        due("alike", law(text + "5", "", 0, 1), 2);
        due("above by one", law(text + "6", "", 0, 1), 0);
        due("less, of the bench", law(text + "4;bench 0", "", 0, 1), 0);
        due("the other one alike", law("places 2;person 0 1;person 1 1;wish 0 1 1", "", 0, 1), 2);
        due("the other one of the bench", law("places 2;person 0 1;person 1 1;wish 0 1 1;bench 1", "", 0, 1), 0);
        due("below 0 but above", law("places 2;person 0 1;person 1 1", "want 0-2 if not to=at;want 0-3", 0, 1), 0);
        due("0 for all", law("places 2;person 0 1;person 1 1", "", 0, 1), 2);
    }

    private static void lawThree() {
        sentence("LAW 3 no bar TEST of the RULE IN FORCE holds");
        String text = "places 2;person 0 1;person 1 1";
        due("none holds", law(text, RESTLESS + ";bar 1=2;bar person>5", 0, 1), 0);
        due("the last of twelve holds", law(text, RESTLESS + ";bar 1=2".repeat(9) + ";bar 1=1", 0, 1), 3);
        due("none of twelve holds", law(text, RESTLESS + ";bar 1=2".repeat(10), 0, 1), 0);
        due("the first of twelve holds", law(text, "bar 1=1;" + RESTLESS + ";bar 1=2".repeat(9), 0, 1), 3);
        due("of the second PERSON", law(text, RESTLESS + ";bar person=1", 0, 1), 3);
        due("the bench is asked, too", law(text + ";bench 0;bench 1", "bar 1=1", 0, 1), 3);
        ChangePlaces x = land(text, RESTLESS + ";bar 1=1");
        force(x, RESTLESS);
        callAll(x, 0, 1);
        due("a RULE that is not IN FORCE", x.may(), 0);
        x.force(0);
        due("IN FORCE again", x.may(), 3);
    }

    private static void lawsInOrder() {
        sentence("LAWS, each of the first PERSON, then of the next one, and so on, the first that is broken");
        // 0 and 1 at 0, 2 at 1, 3 at 2; 0 would go nowhere.
        String text = "places 3;person 0 1;person 0 1;person 1 1;person 2 1";
        String rule = "want 0 if person=0;" + RESTLESS + ";bar person=2;bar person=0";
        due("1 ahead of 2 and 3, of one PERSON", law(text, rule, 0, 1, 2), 1);
        due("2 ahead of 3, of one PERSON", law(text, rule, 0, 2, 3), 2);
        due("2 of the first ahead of 1 of a later one", law(text, rule, 0, 2, 1), 2);
        due("3 of the first ahead of 1 of a later one", law(text, rule, 2, 0, 1), 3);
        due("3 of the first ahead of 2 of the next one", law(text, rule, 2, 0), 3);
        due("2 of the first ahead of 3 of the next one", law(text, rule, 0, 2), 2);
        due("of the last one alone", law(text, rule, 3, 1, 2), 3);
        due("of the third alone", law(text, rule, 3, 1, 0), 1);
    }

    private static void owed() {
        sentence("Who is heavier than whose PLACE they take OWES that one the difference in coal");
        ChangePlaces x = land("places 4;person 0 1;person 1 99;person 2 98;person 3 98", RESTLESS);
        due("the greatest difference", ring(x, 0, 1), 98);
        due("the heavier OWES", x.owes(1, 0), 98);
        due("the lighter OWES nothing", x.owes(0, 1), 0);
        due("alike", ring(x, 2, 3), 0);
        due("alike", x.owes(2, 3) + x.owes(3, 2), 0);
        due("the least difference", ring(x, 1, 2), 1);
        due("owes(1, 2)", x.owes(1, 2), 1);
        due("it grows", ring(x, 0, 1), 98);
        due("owes(1, 0)", x.owes(1, 0), 196);
        // 3 takes the PLACE of 0, 0 that of 1, 1 that of 2, 2 that of 3.
        due("of four", ring(x, 3, 0, 1, 2), 97 + 1);
        due("owes(3, 0)", x.owes(3, 0), 97);
        due("owes(1, 2)", x.owes(1, 2), 2);
        due("in all", x.count(9), 196 + 2 + 97);
        due("person(1, 5)", x.person(1, 5), 198);
        due("person(0, 6)", x.person(0, 6), 196 + 97);
    }

    private static void moved() {
        sentence("Each of them changed once more.");
        ChangePlaces x = land(SIX, RESTLESS);
        due("not yet", x.person(0, 4), 0);
        ring(x, 0, 1);
        ring(x, 1, 2, 3);
        int[] want = {1, 2, 1, 1, 0, 0, 0};
        for (int person = 0; person < 7; person++) {
            due("moved of " + person, x.person(person, 4), want[person]);
        }
    }

    // ---- promises 12 to 14

    private static ChangePlaces sixCalled() {
        ChangePlaces x = land(SIX + ";person 0 9", RESTLESS);
        callAll(x, 5, 4, 3, 2, 1, 0);
        say(x, "want 3");
        return x;
    }

    private static void called() {
        sentence("call: One more is CALLED (NONE: nobody is, 0): how many");
        ChangePlaces x = land(SIX, RESTLESS);
        due("NONE at once", x.call(NONE), 0);
        for (int i = 0; i < 6; i++) {
            due("call", x.call(6 - i), i + 1);
            due("count(6)", x.count(6), i + 1);
        }
        due("NONE", x.call(NONE), 0);
        due("count(6)", x.count(6), 0);
        due("the last PERSON anew", x.call(6), 1);
        due("no COUNTRY", new ChangePlaces().call(NONE), 0);
        changes("call", Edges::midst, y -> y.call(1), 3);
        changes("call(NONE)", Edges::midst, y -> y.call(NONE), 0);
        sentence("call: -2, and nothing happens, without them");
        for (int strange : STRANGE) {
            stays("call(" + strange + ")", Edges::midst, y -> y.call(strange), -2);
        }
        sentence("call: -2, and nothing happens, if they are");
        stays("the first again", Edges::midst, y -> y.call(0), -2);
        stays("the last again", Edges::midst, y -> y.call(3), -2);
        sentence("call: -2, and nothing happens, if there are 6");
        stays("a seventh", HandEdgesTest::sixCalled, y -> y.call(6), -2);
        stays("an eighth", HandEdgesTest::sixCalled, y -> y.call(7), -2);
        stays("one of the six", HandEdgesTest::sixCalled, y -> y.call(5), -2);
    }

    private static Make calling(int rule, int... people) {
        return () -> {
            ChangePlaces x = midst();
            x.force(rule);
            callAll(x, people);
            return x;
        };
    }

    private static void mayAndGo() {
        sentence("may: The LAW that a RING of the CALLED would break (0: none)");
        due("none", midst().may(), 0);
        due("LAW 1", calling(0, 0, 2).made().may(), 1);
        due("LAW 2", calling(0, 0, 1).made().may(), 2);
        due("LAW 3", calling(0, 3, 0).made().may(), 3);
        sentence("may: NONE, if fewer than 2 are");
        due("nobody", calling(0).made().may(), NONE);
        due("one", calling(0, 2).made().may(), NONE);
        due("no COUNTRY", new ChangePlaces().may(), NONE);
        sentence("go: The CALLED go (nobody is CALLED then): coal that is OWED by it");
        ChangePlaces x = midst();
        due("coal", x.go(), 40);
        due("nobody is CALLED", x.count(6), 0);
        due("may", x.may(), NONE);
        due("go again", x.go(), NONE);
        due("where 0 is", x.person(0, 0), 0);
        due("where 3 is", x.person(3, 0), 1);
        due("RINGS done", x.count(11), 4);
        due("can be UNDONE", x.count(8), 4);
        sentence("go: -2 less the LAW that is broken, and nothing happens");
        stays("LAW 1", calling(0, 0, 2), ChangePlaces::go, -3);
        stays("LAW 2", calling(0, 0, 1), ChangePlaces::go, -4);
        stays("LAW 3", calling(0, 3, 0), ChangePlaces::go, -5);
        stays("LAW 1 of the third", calling(1, 3, 0, 2), ChangePlaces::go, -3);
        sentence("go: NONE, and nothing happens, if fewer than 2 are");
        stays("nobody", calling(0), ChangePlaces::go, NONE);
        stays("one", calling(0, 2), ChangePlaces::go, NONE);
        stays("no COUNTRY", ChangePlaces::new, ChangePlaces::go, NONE);
    }

    // ---- UNDONE

    private static List<Integer> standing(ChangePlaces x) {
        List<Integer> seen = new ArrayList<>();
        for (int person = 0; person < x.count(1); person++) {
            seen.add(x.person(person, 0));
            seen.add(x.person(person, 4));
            for (int other = 0; other < x.count(1); other++) {
                seen.add(x.owes(person, other));
            }
        }
        seen.add(x.count(5));
        seen.add(x.count(9));
        seen.add(x.count(11));
        return seen;
    }

    private static void undone() {
        sentence("UNDONE, the last first: PLACES, what is OWED, how often, the DAY, RINGS that were done are as ahead of it");
        ChangePlaces x = midst();
        x.undo();
        List<List<Integer>> ahead = new ArrayList<>();
        int[][] rings = {{3, 2}, {0, 3}, {2, 0, 1}, {3, 2}, {1, 0}};
        for (int[] ring : rings) {
            x.dawn();
            ahead.add(standing(x));
            if (ring(x, ring) < 0) {
                due("go of a RING to be UNDONE", x.may(), 0);
            }
            x.dawn();
            for (int one = 0; one < 4; one++) {
                for (int other = 0; other < 4; other++) {
                    x.pay(one, other, 1);
                }
            }
        }
        for (int i = 4; i >= 0; i--) {
            due("undo: how many more can be", x.undo(), i + 2);
            due("as ahead of it", standing(x).equals(ahead.get(i)), true);
        }
    }

    private static void undoneTwenty() {
        sentence("the last 20 RINGS can be UNDONE");
        ChangePlaces x = land("places 3;person 0 3;person 1 1;person 2 1", RESTLESS);
        List<List<Integer>> ahead = new ArrayList<>();
        for (int i = 1; i <= 22; i++) {
            ahead.add(standing(x));
            ring(x, i % 3, (i + 1) % 3);
            due("can be UNDONE behind " + i, x.count(8), Math.min(i, 20));
        }
        for (int i = 1; i <= 5; i++) {
            due("undo", x.undo(), 20 - i);
            due("as ahead of it", standing(x).equals(ahead.get(22 - i)), true);
        }
        for (int i = 18; i <= 24; i++) {
            if (i <= 22) {
                due("as it was by then", standing(x).equals(ahead.get(i - 1)), true);
            } else {
                ahead.add(standing(x));
            }
            ring(x, i % 3, (i + 1) % 3);
            due("can be UNDONE", x.count(8), Math.min(20, i - 2));
        }
        for (int i = 1; i <= 20; i++) {
            due("undo", x.undo(), 20 - i);
            due("as ahead of it", standing(x).equals(ahead.get(24 - i)), true);
        }
        due("four RINGS stay done", x.count(11), 4);
        sentence("undo: NONE, and nothing happens: none can");
        due("the 21st", x.undo(), NONE);
        due("nothing happens", standing(x).equals(ahead.get(4)), true);
        Make none = () -> {
            ChangePlaces y = midst();
            while (y.count(8) > 0) {
                y.undo();
            }
            y.dawn();
            return y;
        };
        stays("undo", none, ChangePlaces::undo, NONE);
        stays("no RING yet", () -> land(SIX, RESTLESS), ChangePlaces::undo, NONE);
        stays("no COUNTRY", ChangePlaces::new, ChangePlaces::undo, NONE);
    }

    private static void undoneAlone() {
        sentence("undo: what is not named stays");
        ChangePlaces x = midst();
        due("undo", x.undo(), 2);
        due("a wish", x.wish(3, 2), 44);
        due("CALLED", x.count(6), 2);
        due("the BOOK", x.count(7), 2);
        due("FOUND", x.count(10), 2);
        due("x", x.count(12), 77);
        due("IN FORCE", x.count(4), 1);
        due("the TAPE", x.count(13), 16);
        due("who is CALLED: both at 1 now", x.may(), 1);
    }

    // ---- coal, days

    private static void owes() {
        sentence("owes: What one OWES another one");
        ChangePlaces x = midst();
        int[][] want = {{NONE, 4, 0, 0}, {0, NONE, 0, 0}, {0, 2, NONE, 0}, {0, 0, 32, NONE}};
        for (int one = 0; one < 4; one++) {
            for (int other = 0; other < 4; other++) {
                due("owes(" + one + ", " + other + ")", x.owes(one, other), want[one][other]);
            }
        }
        sentence("owes: NONE without these (unlike)");
        for (int strange : STRANGE) {
            due("owes(" + strange + ", 0)", x.owes(strange, 0), NONE);
            due("owes(0, " + strange + ")", x.owes(0, strange), NONE);
            due("owes twice " + strange, x.owes(strange, strange), NONE);
        }
        due("owes(-1, 1)", x.owes(-1, 1), NONE);
        due("owes(1, -1)", x.owes(1, -1), NONE);
    }

    private static void paid() {
        sentence("pay: Coal is paid by one to another one (n 1 and on, what is OWED at most): what is OWED still");
        ChangePlaces x = midst();
        due("the least", x.pay(3, 2, 1), 31);
        due("person(3, 5)", x.person(3, 5), 31);
        due("person(2, 6)", x.person(2, 6), 31);
        due("in all", x.count(9), 37);
        due("LIKING by owes", x.liking(3, 0), 31);
        due("the greatest", x.pay(3, 2, 31), 0);
        due("owes(3, 2)", x.owes(3, 2), 0);
        due("LIKING by owes", x.liking(3, 0), 0);
        due("all of another", x.pay(0, 1, 4), 0);
        due("in all", x.count(9), 2);
        changes("pay", Edges::midst, y -> y.pay(3, 2, 32), 0);
        sentence("pay: NONE, and nothing happens, without these");
        for (int n : new int[] {FAR_BELOW, -1, 0, 33, FAR_ABOVE}) {
            stays("pay(3, 2, " + n + ")", Edges::midst, y -> y.pay(3, 2, n), NONE);
        }
        stays("nothing OWED", Edges::midst, y -> y.pay(2, 3, 1), NONE);
        stays("0 of nothing", Edges::midst, y -> y.pay(2, 3, 0), NONE);
        stays("to oneself", Edges::midst, y -> y.pay(3, 3, 1), NONE);
        stays("pay(-1, 2, 1)", Edges::midst, y -> y.pay(-1, 2, 1), NONE);
        stays("pay(3, -1, 1)", Edges::midst, y -> y.pay(3, -1, 1), NONE);
        for (int strange : STRANGE) {
            stays("pay(" + strange + ", 2, 1)", Edges::midst, y -> y.pay(strange, 2, 1), NONE);
            stays("pay(3, " + strange + ", 1)", Edges::midst, y -> y.pay(3, strange, 1), NONE);
        }
        due("all paid", x.pay(3, 2, 1), NONE);
    }

    private static ChangePlaces lent(int[]... debts) {
        ChangePlaces x = land("places 2" + ";person 0 1".repeat(10));
        for (int[] debt : debts) {
            lend(x, debt[0], debt[1], debt[2]);
        }
        return x;
    }

    private static void struck() {
        sentence("strike: NONE without a COUNTRY");
        due("no COUNTRY", new ChangePlaces().strike(), NONE);
        sentence("STRUCK: as long as there is a ring of debts");
        due("nobody", land("places 2").strike(), 0);
        due("no debts", land(SIX).strike(), 0);
        stays("no ring", Edges::midst, ChangePlaces::strike, 0);
        due("no ring of many", lent(new int[] {0, 1, 9}, new int[] {1, 2, 9}, new int[] {0, 2, 9}).strike(), 0);
        sentence("STRUCK: a ring (of two, too) in which each OWES less by the least of these debts");
        ChangePlaces x = lent(new int[] {8, 9, 5}, new int[] {9, 8, 3});
        due("of two", x.strike(), 6);
        due("owes(8, 9)", x.owes(8, 9), 2);
        due("owes(9, 8)", x.owes(9, 8), 0);
        due("in all", x.count(9), 2);
        due("again", x.strike(), 0);
        x = lent(new int[] {8, 9, 4}, new int[] {9, 8, 4});
        due("alike", x.strike(), 8);
        due("in all", x.count(9), 0);
        x = lent(new int[] {3, 4, 1}, new int[] {4, 3, 1});
        due("the least debts", x.strike(), 2);
        x = lent(new int[] {3, 4, 1}, new int[] {4, 3, 7}, new int[] {4, 5, 2});
        force(x, "want owes");
        due("LIKING by owes", x.liking(4, 0), 9);
        due("strike", x.strike(), 2);
        due("LIKING by owes, behind it", x.liking(4, 0), 8);
        due("LIKING by owes, behind it", x.liking(3, 0), 0);
        x = lent();
        for (int one = 0; one < 10; one++) {
            for (int other = 0; other < 10; other++) {
                lend(x, one, other, one == other ? 0 : 5 + one);
            }
        }
        // All twos, 45, each by what the lesser OWES; then the greater OWES the lesser alone.
        due("as many rings as can be", x.strike(), 2 * (9 * 5 + 8 * 6 + 7 * 7 + 6 * 8 + 5 * 9 + 4 * 10 + 3 * 11 + 2 * 12 + 13));
        due("owes(9, 0)", x.owes(9, 0), 9);
        due("owes(0, 9)", x.owes(0, 9), 0);
        int[][] all = new int[10][];
        for (int i = 0; i < 10; i++) {
            all[i] = new int[] {i, (i + 1) % 10, 10 + i};
        }
        x = lent(all);
        due("of all ten", x.strike(), 100);
        due("owes(0, 1)", x.owes(0, 1), 0);
        due("owes(9, 0)", x.owes(9, 0), 9);
        sentence("STRUCK: of all such rings the shortest");
        x = lent(new int[] {0, 1, 5}, new int[] {1, 2, 5}, new int[] {2, 0, 5}, new int[] {2, 1, 3});
        due("two ahead of three", x.strike(), 6 + 6);
        due("owes(1, 2)", x.owes(1, 2), 0);
        due("owes(0, 1)", x.owes(0, 1), 3);
        x = lent(new int[] {0, 1, 9}, new int[] {0, 2, 5}, new int[] {2, 3, 5}, new int[] {3, 0, 5}, new int[] {2, 1, 9});
        due("who OWES nobody is in no ring", x.strike(), 15);
        due("owes(0, 1)", x.owes(0, 1), 9);
        due("owes(2, 1)", x.owes(2, 1), 9);
        due("owes(2, 3)", x.owes(2, 3), 0);
        sentence("STRUCK: of several the first (begun with its least PERSON, as a row of PEOPLE)");
        // 0 1 and 1 2 of two: the first takes all that 1 OWES 0; both are struck.
        x = lent(new int[] {0, 1, 3}, new int[] {1, 0, 5}, new int[] {1, 2, 4}, new int[] {2, 1, 4});
        due("both", x.strike(), 6 + 8);
        // 0 1 3, 0 2 3 share 3's debt to 0: the first row takes it.
        x = lent(new int[] {0, 1, 9}, new int[] {0, 2, 9}, new int[] {1, 3, 9}, new int[] {2, 3, 9}, new int[] {3, 0, 4});
        due("the lesser second", x.strike(), 12);
        due("owes(0, 1)", x.owes(0, 1), 5);
        due("owes(0, 2)", x.owes(0, 2), 9);
        // 0 2 1 and 1 2 3 share nothing but 1's turn: 0 2 1 is ahead by its least one.
        x = lent(new int[] {0, 2, 5}, new int[] {2, 1, 5}, new int[] {1, 0, 5}, new int[] {1, 3, 5}, new int[] {3, 2, 5});
        due("the least PERSON", x.strike(), 15);
        due("owes(2, 1)", x.owes(2, 1), 0);
        due("owes(1, 3)", x.owes(1, 3), 5);
    }

    private static void dawns() {
        sentence("dawn: The DAY is one more (9999 at most): the DAY");
        ChangePlaces x = midst();
        due("DAY", x.count(5), 2);
        due("dawn", x.dawn(), 3);
        due("DAY", x.count(5), 3);
        changes("dawn", Edges::midst, ChangePlaces::dawn, 3);
        setDay(x, 9998);
        due("the greatest", x.dawn(), 9999);
        sentence("dawn: NONE, and nothing happens, without a COUNTRY, or then");
        due("then", x.dawn(), NONE);
        due("DAY", x.count(5), 9999);
        Make last = () -> {
            ChangePlaces y = midst();
            setDay(y, 9999);
            return y;
        };
        stays("then", last, ChangePlaces::dawn, NONE);
        stays("no COUNTRY", ChangePlaces::new, ChangePlaces::dawn, NONE);
    }

    private static ChangePlaces fullBook() {
        ChangePlaces x = midst();
        while (x.count(7) < 12) {
            tell(x, x.count(7) % 3, 3);
        }
        callAll(x, 0, 3);
        return x;
    }

    private static void booked() {
        sentence("book: The CALLED come into the BOOK as a RING (they are CALLED no more): its number");
        ChangePlaces x = land(SIX, RESTLESS);
        for (int i = 0; i < 12; i++) {
            due("book", tell(x, i % 7, (i + 1) % 7), i);
            due("CALLED no more", x.count(6), 0);
            due("RINGS in the BOOK", x.count(7), i + 1);
        }
        changes("book", Edges::midst, ChangePlaces::book, 2);
        due("one that can't be", tell(midst(), 0, 2), 2);
        sentence("book: NONE, and nothing happens, if fewer than 2 are, or there are 12");
        stays("nobody", calling(1), ChangePlaces::book, NONE);
        stays("one", calling(1, 0), ChangePlaces::book, NONE);
        stays("a thirteenth", HandEdgesTest::fullBook, ChangePlaces::book, NONE);
        stays("no COUNTRY", ChangePlaces::new, ChangePlaces::book, NONE);
    }

    private static ChangePlaces bare() {
        ChangePlaces x = new ChangePlaces();
        force(x, "want 5");
        x.seed(9);
        x.image(1);
        say(x, SIX);
        return x;
    }

    private static void withoutCountry() {
        sentence("without a COUNTRY nothing happens");
        stays("desire", HandEdgesTest::bare, x -> x.desire(0, 0, 1), NONE);
        stays("call", HandEdgesTest::bare, x -> x.call(0), -2);
        stays("go", HandEdgesTest::bare, ChangePlaces::go, NONE);
        stays("undo", HandEdgesTest::bare, ChangePlaces::undo, NONE);
        stays("pay", HandEdgesTest::bare, x -> x.pay(0, 1, 1), NONE);
        stays("strike", HandEdgesTest::bare, ChangePlaces::strike, NONE);
        stays("dawn", HandEdgesTest::bare, ChangePlaces::dawn, NONE);
        stays("book", HandEdgesTest::bare, ChangePlaces::book, NONE);
        stays("burn", HandEdgesTest::bare, ChangePlaces::burn, 0);
        stays("found", HandEdgesTest::bare, x -> x.found(0, 0) ? 1 : 0, 0);
        stays("found NONE", HandEdgesTest::bare, x -> x.found(0, NONE) ? 1 : 0, 0);
    }

    private static void founds() {
        sentence("found: a PERSON is told to be at a PLACE (NONE: anywhere): true");
        ChangePlaces x = midst();
        due("the last of both", x.found(3, 3), true);
        due("FOUND", x.count(10), 3);
        due("the first of both", x.found(0, 0), true);
        due("told before", x.count(10), 3);
        due("anywhere", x.found(0, NONE), true);
        due("FOUND", x.count(10), 2);
        due("anywhere again", x.found(0, NONE), true);
        due("FOUND", x.count(10), 2);
        changes("found", Edges::midst, y -> y.found(3, 1) ? 1 : 0, 1);
        changes("found NONE", Edges::midst, y -> y.found(0, NONE) ? 1 : 0, 1);
        sentence("found: false, and nothing happens, without these");
        for (int strange : STRANGE) {
            stays("found(" + strange + ", 0)", Edges::midst, y -> y.found(strange, 0) ? 1 : 0, 0);
            stays("found(0, " + strange + ")", Edges::midst, y -> y.found(0, strange) ? 1 : 0, 0);
            stays("found(" + strange + ", NONE)", Edges::midst, y -> y.found(strange, NONE) ? 1 : 0, 0);
        }
        stays("found(-1, 0)", Edges::midst, y -> y.found(-1, 0) ? 1 : 0, 0);
    }

    private static void seeds() {
        sentence("seed: x becomes a number: what it was (0 to 2147483647; 0 at first)");
        ChangePlaces x = new ChangePlaces();
        due("at first", x.seed(FAR_ABOVE), 0);
        due("the greatest", x.count(12), FAR_ABOVE);
        due("what it was", x.seed(0), FAR_ABOVE);
        due("the least", x.seed(1), 0);
        due("x", x.count(12), 1);
        changes("seed", Edges::midst, y -> y.seed(78), 77);
        sentence("seed: NONE, and nothing happens, below 0");
        stays("seed(-1)", Edges::midst, y -> y.seed(-1), NONE);
        stays("seed of the least", Edges::midst, y -> y.seed(FAR_BELOW), NONE);
    }

    private static void counts() {
        sentence("count: What 0 .. 13");
        int[] want = {4, 4, 3, 2, 1, 2, 2, 2, 3, 38, 2, 3, 77, 16};
        ChangePlaces x = midst();
        for (int what = 0; what < 14; what++) {
            due("count(" + what + ")", x.count(what), want[what]);
        }
        ChangePlaces full = land(people(10, ";call 0".repeat(8)));
        due("PLACES at most", full.count(0), 8);
        due("PEOPLE at most", full.count(1), 10);
        due("calls at most", full.count(2), 8);
        for (int person = 0; person < 10; person++) {
            full.found(person, 7);
        }
        due("PEOPLE FOUND at most", full.count(10), 10);
        sentence("count 5: the DAY (0 without a COUNTRY)");
        due("no COUNTRY", bare().count(5), 0);
        sentence("count: NONE for others");
        for (int what : new int[] {FAR_BELOW, -2, -1, 14, 15, FAR_ABOVE}) {
            due("count(" + what + ")", x.count(what), NONE);
        }
    }

    // ---- IMAGES

    private static void imagesMade() {
        sentence("IMAGES 0 to 3");
        ChangePlaces x = land(SIX, RESTLESS);
        for (int k = 0; k < 4; k++) {
            x.seed(50 + k);
            due("image: RINGS that were done", x.image(k), k);
            ring(x, k, k + 1);
        }
        for (int k = 3; k >= 0; k--) {
            due("back: RINGS that were done", x.back(k), k);
            due("x", x.count(12), 50 + k);
            due("RINGS done", x.count(11), k);
            due("RINGS that can be UNDONE", x.count(8), k);
        }
        due("back to a later one", x.back(3), 3);
        sentence("image: An IMAGE is made, in place of the one there was");
        due("image(0) anew", x.image(0), 3);
        x.back(1);
        due("back(0)", x.back(0), 3);
        sentence("image: of no COUNTRY");
        ChangePlaces y = bare();
        due("image", y.image(3), 0);
        y.country();
        ring(y, 0, 1);
        due("back", y.back(3), 0);
        due("PLACES", y.count(0), 0);
        due("DAY", y.count(5), 0);
        due("dawn", y.dawn(), NONE);
    }

    private static void stir(ChangePlaces x) {
        x.go();
        x.pay(3, 0, 7);
        x.dawn();
        x.desire(0, 3, 31);
        x.found(0, NONE);
        x.found(3, 3);
        x.seed(1);
        x.burn();
        tell(x, 2, 3);
        callAll(x, 1);
        x.undo();
        x.undo();
        x.force(0);
    }

    private static void imagesHold() {
        sentence("IMAGES: all but the TAPE and the RULES, as it is (what can be UNDONE, too); gone back to, it is as it was");
        Make made = () -> {
            ChangePlaces x = midst();
            x.image(1);
            return x;
        };
        staysBut("back behind much", made, x -> {
            stir(x);
            return x.back(1);
        }, 3, x -> 0);
        staysBut("back twice, much behind each", made, x -> {
            stir(x);
            x.back(1);
            stir(x);
            return x.back(1);
        }, 3, x -> 0);
        staysBut("back from another COUNTRY", made, x -> {
            say(x, "places 2;person 1 3;person 0 1;wish 0 0 9;bench 1;call 0");
            x.country();
            ring(x, 0, 1);
            x.back(1);
            say(x, "want to*3+at-day");
            return x.count(11);
        }, 3, x -> 0);
        changes("much", made, x -> {
            stir(x);
            return 0;
        }, 0);
        sentence("IMAGES: what can be UNDONE, too: behind more than 20 RINGS, and of fewer");
        Make many = () -> {
            ChangePlaces x = land("places 3;person 0 3;person 1 1;person 2 7", RESTLESS);
            ring(x, 0, 1);
            ring(x, 1, 2);
            x.image(0);
            for (int i = 0; i < 25; i++) {
                ring(x, i % 3, (i + 1) % 3);
            }
            x.image(1);
            return x;
        };
        staysBut("back(1) behind 6 RINGS and back(0)", many, x -> {
            for (int i = 0; i < 6; i++) {
                ring(x, 0, 2);
            }
            x.back(0);
            ring(x, 0, 1);
            return x.back(1);
        }, 27, x -> 0);
        staysBut("back(0) behind many", many, x -> x.back(0), 2, x -> {
            while (x.count(11) > 7) {
                x.undo();
            }
            return x.back(0);
        });
        ChangePlaces few = many.made();
        due("back(0)", few.back(0), 2);
        due("can be UNDONE", few.count(8), 2);
        due("undo", few.undo(), 1);
        due("where 0 is", few.person(0, 0), 1);
        due("where 1 is", few.person(1, 0), 0);
        due("owes(0, 1)", few.owes(0, 1), 2);
        due("undo", few.undo(), 0);
        due("where 0 is", few.person(0, 0), 0);
        due("owes(0, 1)", few.owes(0, 1), 0);
        sentence("back: All is as in an IMAGE (the RULE IN FORCE, too): RINGS that were done");
        ChangePlaces x = midst();
        due("back(0)", x.back(0), 0);
        due("IN FORCE", x.count(4), 0);
        due("back(2)", x.back(2), 2);
        x.force(NONE);
        x.image(3);
        x.force(1);
        due("back(3)", x.back(3), 2);
        due("none IN FORCE", x.count(4), NONE);
        due("LIKING without it", x.liking(1, 2), 5);
        sentence("back: the TAPE and the RULES stay");
        due("RULES", x.count(3), 2);
        due("the TAPE", x.count(13), 16);
        tellRule(x, "want 8");
        say(x, "places 3");
        due("back(2)", x.back(2), 2);
        due("RULES", x.count(3), 3);
        due("the TAPE", x.count(13), 8);
        due("the TAPE is sound", x.country(), 0);
    }

    private static void imagesRefused() {
        sentence("image: NONE without it");
        for (int k : new int[] {FAR_BELOW, -2, -1, 4, 5, FAR_ABOVE}) {
            stays("image(" + k + ")", Edges::midst, x -> x.image(k), NONE);
        }
        changes("image(1)", Edges::midst, x -> x.image(1), 3);
        sentence("back: NONE, and nothing happens, if it was never made, or without it");
        for (int k : new int[] {FAR_BELOW, -2, -1, 1, 3, 4, 5, FAR_ABOVE}) {
            stays("back(" + k + ")", Edges::midst, x -> x.back(k), NONE);
        }
        changes("back(0)", Edges::midst, x -> x.back(0), 0);
        due("no COUNTRY", new ChangePlaces().back(0), NONE);
    }
}
