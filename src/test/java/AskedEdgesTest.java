/** The edges of what is asked: 'Terms' III, and promises 21 to 32, 34 to 38 and 40. */
public final class AskedEdgesTest extends Edges {
    private static final int[] STRANGE = {FAR_BELOW, -2, 4, 5, 10, 99, FAR_ABOVE};
    private static final String THREE = "places 3;person 0 1;person 1 1;person 2 1";
    private static final String FOUR = "places 4;person 0 1;person 1 1;person 2 1;person 3 1";

    public static void main(String[] args) {
        nothingChanges();
        asNow();
        bookHolds12();
        judged();
        laidOut();
        changers();
        mostGained();
        mostFewest();
        mostFirst();
        mostRings();
        mostRefused();
        corePoints();
        coreRounds();
        blocks();
        journeys();
        rows();
        reached();
        journeysOf2000();
        doneFewest();
        doneWays();
        doneOf2000();
        doctors();
        served();
        liars();
        draws();
        years();
        finish();
    }

    // ---- of all that is asked

    private static void nothingChanges() {
        sentence("By what is asked nothing changes.");
        for (int a : new int[] {FAR_BELOW, -2, -1, 0, 1, 2, 3, 4, 5, 10, FAR_ABOVE}) {
            asks("looking with " + a, Edges::midst, x -> x.person(a, 0) + x.person(1, a) + x.wish(a, 1) + x.wish(1, a)
                    + x.liking(a, 1) + x.liking(1, a) + x.place(a, 1) + x.place(1, a) + x.owes(a, 1) + x.owes(1, a) + x.count(a));
            asks("the BOOK with " + a, Edges::midst, x -> x.judged(a) + x.then(a) + x.laidOut(a) + x.may());
            asks("changers with " + a, Edges::midst, x -> x.changers(a, 0) + x.changers(a, 1) + x.changers(a, 2) + x.changers(1, a));
            asks("most with " + a, Edges::midst, x -> x.most(a, 0) + x.most(3, a) + x.mostOf(a, 0) + x.mostOf(2, a) + x.blocks(a));
            asks("core with " + a, Edges::midst, x -> x.core(a));
            asks("journeys with " + a, Edges::midst, x -> x.journey(a, 1) + x.journey(1, a) + x.row(a, 0, 0, 0)
                    + x.row(1, a, 0, 1) + x.row(1, 0, a, 0) + x.row(1, 0, 0, a) + x.reached(a) + x.done(a));
            asks("doctors with " + a, Edges::midst, x -> x.doctors(a) + x.served(a));
            asks("lies with " + a, Edges::midst, x -> x.liars(a) + x.lie(a, 1) + x.lie(0, a) + x.lie(1, a));
            asks("years with " + a, Edges::midst, x -> x.years(a, 9, 0) + x.years(2, a, 1) + x.years(3, 50, a));
        }
    }

    private static void asNow() {
        sentence("DAY, what is OWED, and how often all changed are as now in all of this");
        ChangePlaces x = land("places 2;person 0 3;person 1 1", RESTLESS + ";bar moved>0;bar owes>0;bar day>1");
        tell(x, 0, 1);
        tell(x, 1, 0);
        tell(x, 0, 1);
        x.found(0, 0);
        due("JUDGED", x.judged(0), NONE);
        due("JOURNEY", x.journey(0, 1), 1);
        due("REACHED", x.reached(NONE), 2);
        due("go", ring(x, 0, 1), 2);
        due("JUDGED, behind a RING", x.judged(0), 0);
        due("its LAW", x.judged(1), 3);
        due("JOURNEY, behind a RING", x.journey(0, 0), -2);
        due("REACHED, behind a RING", x.reached(NONE), 1);
        due("DONE at HOME", x.done(0), 0);
        x.found(0, 1);
        due("DONE: nobody could have gone", x.done(0), -2);
        x.undo();
        due("DONE, as UNDONE", x.done(0), 1);
        due("JUDGED, as UNDONE", x.judged(0), NONE);
        x.dawn();
        due("JUDGED, a DAY later", x.judged(0), 0);
        due("JOURNEY, a DAY later", x.journey(0, 1), -2);
        due("DONE, a DAY later", x.done(0), -2);
        due("changers, a DAY later", x.changers(0, 2), 0);
        due("most, a DAY later", x.most(2, 0), 0);
        sentence("The RULE IN FORCE is asked");
        x.force(NONE);
        due("JUDGED without one", x.judged(1), 2);
        due("JOURNEY without one", x.journey(0, 1), -2);
        due("DONE without one", x.done(0), -2);
    }

    // ---- the BOOK

    private static void bookHolds12() {
        sentence("The BOOK: up to 12 RINGS, told");
        ChangePlaces x = land(FOUR, RESTLESS);
        for (int i = 0; i < 12; i++) {
            due("book", tell(x, i % 4, (i + 1) % 4), i);
        }
        due("a thirteenth", tell(x, 0, 1), NONE);
        due("all can", x.judged(0), NONE);
        sentence("burn: The BOOK is empty: how many RINGS it had");
        due("burn", x.burn(), 12);
        due("empty", x.count(7), 0);
        due("burn again", x.burn(), 0);
        due("laidOut(0)", x.laidOut(0), -2);
        due("the first anew", tell(x, 2, 3), 0);
        due("burn one", x.burn(), 1);
        changes("burn", Edges::midst, ChangePlaces::burn, 2);
        due("no COUNTRY", new ChangePlaces().burn(), 0);
    }

    private static void judged() {
        sentence("JUDGED what 0: the first RING that can't be (NONE: all can), 1: the LAW (0: none)");
        ChangePlaces x = land("places 3;person 0 1;person 1 1;person 1 1;person 2 1", RESTLESS + ";bar person=3 and to=1");
        due("nothing told", x.judged(0), NONE);
        due("nothing told", x.judged(1), 0);
        tell(x, 1, 2);
        due("the very first", x.judged(0), 0);
        due("LAW 1", x.judged(1), 1);
        due("as now", x.then(0), 0);
        x.burn();
        for (int i = 0; i < 11; i++) {
            tell(x, 0, 1);
        }
        due("eleven can", x.judged(0), NONE);
        due("where 0 is then", x.then(0), 1);
        due("where 1 is then", x.then(1), 0);
        tell(x, 3, 0);
        due("the twelfth", x.judged(0), 11);
        due("LAW 3", x.judged(1), 3);
        due("behind those ahead of it", x.then(0), 1);
        due("behind those ahead of it", x.then(3), 2);
        x.burn();
        tell(x, 0, 1);
        tell(x, 0, 2);
        tell(x, 0, 3);
        due("the second, those behind are not asked", x.judged(0), 1);
        due("LAW 1 behind the first", x.judged(1), 1);
        due("nor done", x.then(3), 2);
        due("nor is the second", x.then(2), 1);
        due("nothing is done", x.person(0, 0), 0);
        x.force(NONE);
        due("LAW 2", x.judged(1), 2);
        sentence("judged: -2 for others");
        for (int what : new int[] {FAR_BELOW, -2, -1, 2, 3, FAR_ABOVE}) {
            due("judged(" + what + ")", x.judged(what), -2);
        }
        due("no COUNTRY, 0", new ChangePlaces().judged(0), NONE);
        due("no COUNTRY, 1", new ChangePlaces().judged(1), 0);
        sentence("then: JUDGED: where a PERSON is then; NONE without them");
        ChangePlaces y = midst();
        for (int strange : STRANGE) {
            due("then(" + strange + ")", y.then(strange), NONE);
        }
        due("then(-1)", y.then(-1), NONE);
        due("then(3)", y.then(3), 0);
    }

    private static void laidOut() {
        sentence("LAID OUT: each RING on the first DAY (1 and on) behind all DAYS of RINGS ahead of it that have a PERSON in common");
        ChangePlaces x = land(people(10, ""));
        due("none", x.laidOut(NONE), 0);
        tell(x, 0, 1);
        due("one", x.laidOut(NONE), 1);
        due("the least DAY", x.laidOut(0), 1);
        int[][] rings = {{2, 3}, {1, 2}, {2, 1, 0}, {8, 9}, {4, 9}, {3, 4}, {5, 6}, {7, 5, 3}, {0, 9}, {6, 8}, {6, 9}};
        int[] days = {1, 1, 2, 3, 1, 2, 3, 1, 4, 4, 2, 5};
        for (int[] ring : rings) {
            tell(x, ring);
        }
        for (int i = 0; i < 12; i++) {
            due("laidOut(" + i + ")", x.laidOut(i), days[i]);
        }
        due("how many DAYS", x.laidOut(NONE), 5);
        x.burn();
        for (int i = 0; i < 12; i++) {
            tell(x, 3, i % 3);
        }
        for (int i = 0; i < 12; i++) {
            due("laidOut(" + i + ")", x.laidOut(i), i + 1);
        }
        due("the most DAYS", x.laidOut(NONE), 12);
        x.burn();
        tell(x, 0, 1);
        tell(x, 1, 2);
        tell(x, 2, 3);
        tell(x, 0, 3);
        tell(x, 4, 5);
        due("behind a DAY that is not the last one's", x.laidOut(3), 4);
        due("the most is not the last one's", x.laidOut(NONE), 4);
        sentence("laidOut: -2 without it");
        for (int ring : new int[] {FAR_BELOW, -2, 5, 6, 12, FAR_ABOVE}) {
            due("laidOut(" + ring + ")", x.laidOut(ring), -2);
        }
        x.burn();
        due("laidOut(0) of none", x.laidOut(0), -2);
    }

    // ---- CHANGERS

    private static void changers() {
        sentence("CHANGERS: twos (the lesser first) for whom a RING can be (k from 0 on)");
        ChangePlaces x = land(people(10, ""), RESTLESS);
        // All twos of ten but 0 8 and 1 9, who are at one PLACE.
        due("how many", x.changers(0, 2), 43);
        due("the first", x.changers(0, 0) * 10 + x.changers(0, 1), 1);
        due("the eighth", x.changers(7, 0) * 10 + x.changers(7, 1), 9);
        due("the next one's first", x.changers(8, 0) * 10 + x.changers(8, 1), 12);
        due("the last", x.changers(42, 0) * 10 + x.changers(42, 1), 89);
        due("one more", x.changers(43, 0), NONE);
        due("one more", x.changers(43, 1), NONE);
        sentence("changers: what 2: how many, k is not asked");
        for (int k : new int[] {FAR_BELOW, -1, 1, 43, FAR_ABOVE}) {
            due("changers(" + k + ", 2)", x.changers(k, 2), 43);
        }
        sentence("changers: NONE without these (no COUNTRY)");
        for (int k : new int[] {FAR_BELOW, -2, -1, 44, FAR_ABOVE}) {
            due("changers(" + k + ", 0)", x.changers(k, 0), NONE);
            due("changers(" + k + ", 1)", x.changers(k, 1), NONE);
        }
        for (int what : new int[] {FAR_BELOW, -1, 3, FAR_ABOVE}) {
            due("changers(0, " + what + ")", x.changers(0, what), NONE);
        }
        for (int what = 0; what < 3; what++) {
            due("no COUNTRY, " + what, new ChangePlaces().changers(0, what), NONE);
            due("nobody, " + what, land("places 2").changers(0, what), what == 2 ? 0 : NONE);
            due("one PERSON, " + what, land("places 2;person 0 1", RESTLESS).changers(0, what), what == 2 ? 0 : NONE);
        }
        sentence("CHANGERS: for whom a RING can be");
        x = land("places 3;person 0 1;person 1 1;person 2 1;wish 0 1 1;wish 0 2 1;wish 1 0 1;wish 2 0 1");
        due("both twos of 0", x.changers(0, 2), 2);
        force(x, "bar with=2");
        due("one is barred", x.changers(0, 2), 1);
        force(x, "bar with=0 and person=1");
        due("the other one is barred", x.changers(0, 1), 2);
        sentence("CHANGERS: a RING of two: the WORD ring is 2");
        for (String who : new String[] {"person=0", "person=1", "person<9"}) {
            x = land("places 2;person 0 1;person 1 1", RESTLESS + ";bar ring=2 and " + who);
            due("none by " + who, x.changers(0, 2), 0);
            due("no JOURNEY by " + who, x.journey(0, 1), -2);
            due("no YEARS by " + who, x.years(1, 50, 0), 0);
            force(x, RESTLESS + ";bar not ring=2 and " + who);
            due("one by " + who, x.changers(0, 2), 1);
            due("JOURNEY by " + who, x.journey(0, 1), 1);
        }
    }

    // ---- MOST

    /** Who may take whose PLACE is told by wishes, all of 5: a row for each PERSON. */
    private static ChangePlaces wishing(String... rows) {
        StringBuilder b = new StringBuilder("places 8");
        for (int person = 0; person < rows.length; person++) {
            b.append(";person ").append(person).append(" 1");
        }
        for (int person = 0; person < rows.length; person++) {
            for (int i = 0; i < rows[person].length(); i++) {
                b.append(";wish ").append(person).append(' ').append(rows[person].charAt(i)).append(" 5");
            }
        }
        return land(b.toString());
    }

    private static void takes(ChangePlaces x, int k, int... whose) {
        for (int person = 0; person < whose.length; person++) {
            due("mostOf(" + k + ", " + person + ")", x.mostOf(k, person), whose[person]);
        }
    }

    private static void mostGained() {
        sentence("MOST: by which most is gained: the sum of LIKING for where they come less that for where they are");
        ChangePlaces x = land("places 2;person 0 1;person 1 1");
        due("nothing", x.most(2, 0), 0);
        due("nobody changes", x.most(4, 1), 0);
        takes(x, 2, 0, 1);
        x = land("places 2;person 0 1;person 1 1;wish 0 1 1;wish 1 0 1");
        due("the least", x.most(2, 0), 2);
        due("both change", x.most(2, 1), 2);
        takes(x, 2, 1, 0);
        x = land("places 2;person 0 1;person 1 1;wish 0 1 9;wish 0 0 3;wish 1 0 8;wish 1 1 7");
        due("less where they are", x.most(2, 0), 7);
        x = land(people(10, ""), "want 999 if not to=at;want 0-999");
        due("the greatest", x.most(2, 0), 19980);
        due("all ten", x.most(2, 1), 10);
        due("the greatest", x.most(4, 0), 19980);
        x = land(people(10, ";bench 0;bench 1;bench 2;bench 3;bench 4;bench 5;bench 6;bench 7;bench 8;bench 9"),
                "want 0-999 if not to=at;want 999");
        due("all would lose", x.most(4, 0), 0);
        due("all would lose", x.most(4, 1), 0);
        sentence("MOST: of the bench one may lose");
        String bench = "places 2;person 0 1;person 1 1;bench 0;wish 0 0 5;wish 1 0 ";
        due("less than the other gains", land(bench + "6").most(2, 0), 1);
        takes(land(bench + "6"), 2, 1, 0);
        due("as much", land(bench + "5").most(2, 0), 0);
        takes(land(bench + "5"), 2, 0, 1);
        due("more", land(bench + "4").most(2, 0), 0);
        takes(land(bench + "4"), 2, 0, 1);
        due("who loses is not of the bench", land("places 2;person 0 1;person 1 1;wish 0 0 1;wish 1 0 99").most(2, 0), 0);
        sentence("MOST: LAW 1 is asked of the bench, too");
        x = land("places 2;person 0 1;person 0 1;person 1 1;bench 0;bench 1;bench 2", RESTLESS + ";bar ring=2");
        due("0 may not take the PLACE of 1", x.most(3, 0), 0);
        takes(x, 3, 0, 1, 2);
        sentence("MOST: nobody, one PERSON, all at one PLACE");
        due("nobody", land("places 2").most(2, 0), 0);
        due("nobody", land("places 2").most(4, 1), 0);
        takes(land("places 2;person 0 1", RESTLESS), 4, 0);
        takes(land("places 2;person 0 1;person 0 1;bench 0;bench 1", RESTLESS), 4, 0, 1);
    }

    private static void mostFewest() {
        sentence("MOST: of several sets by which fewest change");
        String text = "places 3;person 0 1;person 1 1;person 2 1;wish 0 1 3;wish 1 2 3;wish 2 0 3;wish 1 0 ";
        due("two rather than three", land(text + "6").most(3, 1), 2);
        takes(land(text + "6"), 3, 1, 0, 2);
        due("as much", land(text + "6").most(3, 0), 9);
        due("three gain more by one", land(text + "5").most(3, 1), 3);
        takes(land(text + "5"), 3, 1, 2, 0);
        due("two gain more by one", land(text + "7").most(3, 0), 10);
        String bench = "places 2;person 0 1;person 1 1;bench 0;bench 1";
        due("nothing is gained: none change", land(bench).most(2, 1), 0);
        // 0 with 1 gains 10; so would 0 1 with 2 3 of the bench, who gain nothing.
        ChangePlaces x = land(FOUR + ";bench 2;bench 3;wish 0 1 5;wish 1 0 5");
        due("none besides", x.most(4, 1), 2);
        takes(x, 4, 1, 0, 2, 3);
        // Of ten all twos alike: five twos; behind one who has nobody, four.
        due("as many as gain", land(people(9, ""), RESTLESS).most(2, 1), 8);
    }

    private static void mostFirst() {
        sentence("MOST: of these: the least PERSON stays, rather than is in a RING");
        takes(land(THREE, RESTLESS), 2, 0, 2, 1);
        takes(land(people(7, ""), RESTLESS), 2, 0, 2, 1, 4, 3, 6, 5);
        // 0 can be with 1 or 2, 1 and 2 with nobody else: 0 can't stay.
        takes(wishing("12", "0", "0"), 2, 1, 0, 2);
        sentence("MOST: of RINGS the first (begun with its least PERSON, as a row of PEOPLE)");
        takes(land(FOUR, RESTLESS), 2, 1, 0, 3, 2);
        takes(wishing("123", "02", "013", "20"), 2, 1, 0, 3, 2);
        takes(wishing("12", "02", "01"), 3, 1, 2, 0);
        takes(wishing("2", "0", "1"), 3, 2, 0, 1);
        takes(land(THREE, RESTLESS + ";bar person=0 and with=1"), 3, 2, 0, 1);
        // 1 could be with 2, who is with 0.
        takes(wishing("2", "23", "01", "1"), 2, 2, 3, 0, 1);
        // 0 with the last one, whom they are the only one for.
        takes(wishing("7", "23", "13", "12", "56", "46", "45", "0"), 2, 7, 1, 3, 2, 4, 6, 5, 0);
        takes(wishing("7", "23", "13", "12", "56", "46", "45", "0"), 3, 7, 2, 3, 1, 5, 6, 4, 0);
        sentence("MOST: a longer row is ahead of a shorter one that does not begin it");
        // 0 1 2 and 3 4, or 0 2 and 1 3 4: all five gain 5.
        takes(wishing("12", "23", "0", "4", "31"), 3, 1, 2, 0, 4, 3);
        // 0 2 and 1 3 4 alone, if 2 does not take the PLACE of 0 in a RING of three.
        ChangePlaces x = wishing("12", "23", "0", "4", "31");
        force(x, "bar ring=3 and person=2");
        takes(x, 3, 2, 3, 0, 4, 1);
        sentence("MOST: shorter ones ahead of longer that begin so");
        // 0 1 and 2 3, or 0 1 2 3: all four gain 5.
        x = wishing("1", "02", "3", "20");
        takes(x, 4, 1, 0, 3, 2);
        force(x, "bar ring=2");
        takes(x, 4, 1, 2, 3, 0);
        // 0 1 2 and 3 4 5, or 0 1 2 3 and 4 5: the shorter begins the longer.
        takes(wishing("1", "2", "03", "40", "5", "34"), 4, 1, 2, 0, 4, 5, 3);
        sentence("MOST: then so on for the rest");
        // 0 with 1; of 2 3 4, of whom two can change, 2 stays; 5 with 6 or 7.
        takes(wishing("1", "0", "34", "24", "23", "67", "5", "5"), 2, 1, 0, 2, 4, 3, 6, 5, 7);
        // The rest is 1 2 3, as 0 stays: 1 stays, too, of 1 2 3.
        takes(wishing("", "23", "13", "12"), 2, 0, 1, 3, 2);
    }

    private static void mostRings() {
        sentence("MOST with rings of at most k (2 to 4)");
        ChangePlaces x = wishing("1", "2", "3", "0", "5", "6", "4");
        due("none of 2", x.most(2, 0), 0);
        due("one of 3", x.most(3, 0), 15);
        takes(x, 3, 0, 1, 2, 3, 5, 6, 4);
        due("one of 3, one of 4", x.most(4, 0), 35);
        takes(x, 4, 1, 2, 3, 0, 5, 6, 4);
        due("a RING of 5 is too long", wishing("1", "2", "3", "4", "0").most(4, 0), 0);
        takes(wishing("1", "2", "3", "4", "0"), 4, 0, 1, 2, 3, 4);
        sentence("MOST: (bar TESTS are asked of each RING by itself.)");
        x = land(FOUR, RESTLESS + ";bar ring=2");
        due("none of 2", x.most(2, 0), 0);
        due("of 3", x.most(3, 0), 27);
        takes(x, 3, 0, 2, 3, 1);
        due("of 4", x.most(4, 0), 36);
        takes(x, 4, 1, 2, 3, 0);
        force(x, RESTLESS + ";bar ring>2");
        due("of 2 alone", x.most(4, 0), 36);
        takes(x, 4, 1, 0, 3, 2);
        force(x, RESTLESS + ";bar ring=4 and with=1;bar ring<4 and with=0");
        due("1 may not be followed in a RING of 4, nor 0 in a shorter one", x.most(4, 0), 27);
        takes(x, 4, 0, 2, 3, 1);
    }

    private static void mostRefused() {
        sentence("most, mostOf: NONE without these, or a COUNTRY");
        ChangePlaces x = midst();
        for (int k : new int[] {FAR_BELOW, -1, 0, 1, 5, 6, FAR_ABOVE}) {
            due("most(" + k + ", 0)", x.most(k, 0), NONE);
            due("most(" + k + ", 1)", x.most(k, 1), NONE);
            due("mostOf(" + k + ", 0)", x.mostOf(k, 0), NONE);
        }
        for (int what : new int[] {FAR_BELOW, -2, -1, 2, 3, FAR_ABOVE}) {
            due("most(2, " + what + ")", x.most(2, what), NONE);
        }
        for (int strange : STRANGE) {
            due("mostOf(2, " + strange + ")", x.mostOf(2, strange), NONE);
            due("core(" + strange + ")", x.core(strange), NONE);
        }
        due("mostOf(2, -1)", x.mostOf(2, -1), NONE);
        due("no COUNTRY", new ChangePlaces().most(2, 0), NONE);
        due("no COUNTRY", new ChangePlaces().mostOf(2, 0), NONE);
        due("nobody", land("places 2").mostOf(2, 0), NONE);
        sentence("core: NONE without them");
        due("core(-1)", x.core(-1), NONE);
        due("no COUNTRY", new ChangePlaces().core(0), NONE);
        due("nobody", land("places 2").core(0), NONE);
    }

    // ---- CORE

    private static void points(ChangePlaces x, int... whose) {
        for (int person = 0; person < whose.length; person++) {
            due("core(" + person + ")", x.core(person), whose[person]);
        }
    }

    private static void corePoints() {
        sentence("CORE: the one most LIKED (if above that where they are); else at themselves");
        points(land("places 2;person 0 1;person 1 1"), 0, 1);
        points(land("places 2;person 0 1;person 1 1;wish 0 0 5;wish 0 1 5;wish 1 0 9"), 0, 1);
        points(land("places 2;person 0 1;person 1 1;wish 0 0 5;wish 0 1 6;wish 1 0 9"), 1, 0);
        points(land("places 2;person 0 1;person 0 1;wish 0 0 5;wish 1 0 5"), 0, 1);
        points(land("places 3;person 0 1;person 1 1;wish 0 2 9;wish 0 1 5;wish 1 0 1"), 1, 0);
        sentence("CORE: of several the least PLACE");
        // 0 LIKES 1 and 2 alike: at 2 is the lesser PERSON, but 1 is the lesser PLACE.
        points(land("places 3;person 0 1;person 2 1;person 1 1;wish 0 1 5;wish 0 2 5;wish 1 0 1;wish 2 0 1"), 2, 1, 0);
        points(land("places 3;person 0 1;person 2 1;person 1 1;wish 0 1 5;wish 0 2 6;wish 1 0 1;wish 2 0 1"), 1, 0, 2);
        sentence("CORE: of these there the least PERSON");
        points(land("places 2;person 0 1;person 1 1;person 1 1;wish 0 1 5;wish 1 0 5;wish 2 0 5"), 1, 0, 2);
        points(land("places 2;person 1 1;person 1 1;person 0 1;wish 0 0 5;wish 1 0 5;wish 2 1 5"), 2, 1, 0);
        points(land("places 2;person 0 1;person 1 1;person 1 1;wish 0 1 5;wish 2 0 5"), 2, 1, 0);
    }

    private static void coreRounds() {
        sentence("CORE: Who comes back to themselves by pointing is in a ring");
        points(wishing("1", "2", "3", "4", "5", "6", "7", "0"), 1, 2, 3, 4, 5, 6, 7, 0);
        points(wishing("1", "0", "3", "2"), 1, 0, 3, 2);
        // 3 points into the ring of 0 1 2 and is not of it.
        points(wishing("1", "2", "0", "0"), 1, 2, 0, 3);
        sentence("CORE: again with the rest, till all are");
        // 0 takes 1's, then 2 points at 3 who LIKED 1 most, then 4 at 5 who LIKED 3 most.
        points(land("places 6;person 0 1;person 1 1;person 2 1;person 3 1;person 4 1;person 5 1;wish 0 1 9;wish 1 0 9;"
                + "wish 2 3 9;wish 3 1 9;wish 3 2 5;wish 4 5 9;wish 5 3 9;wish 5 1 8;wish 5 4 5"), 1, 0, 3, 2, 5, 4);
        // All LIKE the lesser PLACE more: one by one they stay, ten PEOPLE in eight rounds.
        points(land(people(10, ""), "want 8-to"), 0, 1, 2, 3, 4, 5, 6, 7, 8, 9);
        sentence("CORE: the last one alone stays, whoever it was before");
        ChangePlaces last = land("places 2;person 0 1;person 1 1;wish 0 1 5;wish 1 0 5");
        points(last, 1, 0);
        last.desire(1, 0, 0);
        points(last, 0, 1);
        sentence("CORE: (LAW 3 and the bench are not asked.)");
        ChangePlaces x = land("places 2;person 0 1;person 1 1;wish 0 1 5;wish 1 0 5;bench 0;bench 1", "bar 1=1");
        points(x, 1, 0);
        points(land("places 2;person 0 1;person 1 1;bench 0;bench 1;wish 0 1 5"), 0, 1);
    }

    private static void blocks() {
        sentence("BLOCKS: twos who would each LIKE the other one's PLACE then more than where they are then");
        ChangePlaces x = wishing("1", "0");
        force(x, "want wish;bar 1=1");
        due("one", x.blocks(2), 1);
        x.desire(0, 0, 5);
        due("alike is not more", x.blocks(2), 0);
        x.desire(0, 0, 4);
        due("more by one", x.blocks(4), 1);
        x.desire(1, 1, 6);
        due("one alone", x.blocks(3), 0);
        x = land(people(10, ""), RESTLESS + ";bar 1=1");
        due("all but those at one PLACE", x.blocks(2), 43);
        due("behind the CORE none", x.blocks(0), 0);
        x = land("places 2;person 0 1;person 1 1");
        due("nobody would", x.core(0) + x.blocks(0), 0);
        x.desire(0, 1, 5);
        x.desire(1, 0, 5);
        due("behind the CORE as it is now", x.blocks(0), 0);
        due("behind MOST as it is now", x.blocks(2), 0);
        sentence("BLOCKS: LIKING by the WORD at as it is now");
        x = land("places 2;person 0 1;person 1 1", RESTLESS);
        due("behind MOST", x.blocks(2), 0);
        due("behind the CORE", x.blocks(0), 0);
        sentence("blocks: behind what 0: CORE, 2 to 4: MOST with rings of at most so many");
        // By wishes of 5 all in a ring of four; 0 and 2 would change by 1.
        x = wishing("1", "2", "3", "0");
        x.desire(0, 2, 1);
        x.desire(2, 0, 1);
        force(x, "bar ring=2");
        due("2", x.blocks(2), 1);
        due("3", x.blocks(3), 1);
        due("4", x.blocks(4), 0);
        due("0", x.blocks(0), 0);
        sentence("blocks: NONE without these, or a COUNTRY");
        for (int what : new int[] {FAR_BELOW, -2, -1, 1, 5, 6, FAR_ABOVE}) {
            due("blocks(" + what + ")", x.blocks(what), NONE);
        }
        for (int what : new int[] {0, 2, 3, 4}) {
            due("no COUNTRY", new ChangePlaces().blocks(what), NONE);
            due("nobody", land("places 2").blocks(what), 0);
        }
    }

    // ---- JOURNEYS

    private static void journeys() {
        sentence("JOURNEY of a PERSON to a PLACE: the fewest RINGS of two behind which they are there");
        ChangePlaces x = wishing("1", "02", "13", "2");
        due("there already", x.journey(0, 0), 0);
        due("there already, alone of all PLACES", land("places 8;person 7 1").journey(0, 7), 0);
        due("one", x.journey(0, 1), 1);
        // 0 would not from 1 to 0 nor to 2; 1 comes to 2 by 2 alone.
        due("never", x.journey(0, 2), -2);
        due("where nobody is, never", x.journey(0, 7), -2);
        ChangePlaces line = land(FOUR, "want 5+to if to=at+1;want 5-to if at=to+1;want 0");
        due("against LIKING", line.journey(0, 0), 0);
        ChangePlaces y = land(FOUR, "want 9 if to=at+1;want 9 if at=to+1;want 0");
        for (int place = 0; place < 4; place++) {
            due("by steps to " + place, y.journey(0, place), place);
            due("by steps from 3 to " + place, y.journey(3, place), 3 - place);
        }
        sentence("journey: -2: never, -3: UNKNOWN; NONE without these");
        ChangePlaces z = midst();
        for (int strange : STRANGE) {
            due("journey(" + strange + ", 0)", z.journey(strange, 0), NONE);
            due("journey(0, " + strange + ")", z.journey(0, strange), NONE);
        }
        due("journey(-1, 0)", z.journey(-1, 0), NONE);
        due("journey(0, -1)", z.journey(0, -1), NONE);
        due("no COUNTRY", new ChangePlaces().journey(0, 0), NONE);
        due("nobody", land("places 2").journey(0, 0), NONE);
    }

    private static void rows() {
        sentence("The ROW: the RINGS by which that came first");
        ChangePlaces x = land(FOUR, RESTLESS + ";bar person=0 and at=0 and to=3");
        // 0 may not from 0 to 3: by 1 first, (0 1) being the first of the CHANGERS, then (0 3).
        int[] row = {0, 1, 0, 3};
        due("journey", x.journey(0, 3), 2);
        for (int i = 0; i < 4; i++) {
            due("row, RING " + i / 2 + ", " + i % 2, x.row(0, 3, i / 2, i % 2), row[i]);
        }
        // 3 to 0 not with 0 at 0: (0 1), then (1 3) with 1 at 0.
        int[] other = {0, 1, 1, 3};
        for (int i = 0; i < 4; i++) {
            due("row of 3, RING " + i / 2 + ", " + i % 2, x.row(3, 0, i / 2, i % 2), other[i]);
        }
        sentence("row: its k-th RING what 0, 1: who (the lesser first)");
        due("the lesser", x.row(3, 1, 0, 0), 1);
        due("the greater", x.row(3, 1, 0, 1), 3);
        sentence("row: -2: never, or it has not so many");
        due("one more", x.row(0, 3, 2, 0), -2);
        due("the greatest", x.row(0, 3, FAR_ABOVE, 1), -2);
        due("there already", x.row(0, 0, 0, 0), -2);
        due("never", wishing("1", "0").row(0, 5, 0, 0), -2);
        sentence("row: NONE without these (k below 0, too)");
        for (int k : new int[] {FAR_BELOW, -2, -1}) {
            due("row(0, 3, " + k + ", 0)", x.row(0, 3, k, 0), NONE);
            due("of one that is never", wishing("1", "0").row(0, 5, k, 0), NONE);
        }
        for (int what : new int[] {FAR_BELOW, -2, -1, 2, 3, FAR_ABOVE}) {
            due("row(0, 3, 0, " + what + ")", x.row(0, 3, 0, what), NONE);
        }
        for (int strange : STRANGE) {
            due("row(" + strange + ", 0, 0, 0)", x.row(strange, 0, 0, 0), NONE);
            due("row(0, " + strange + ", 0, 0)", x.row(0, strange, 0, 0), NONE);
        }
        due("row(-1, 0, 0, 0)", x.row(-1, 0, 0, 0), NONE);
        due("row(0, -1, 0, 0)", x.row(0, -1, 0, 0), NONE);
        due("no COUNTRY", new ChangePlaces().row(0, 0, 0, 0), NONE);
    }

    private static void reached() {
        sentence("REACHED: how many SITUATIONS can come at all, PLACES a PERSON can be at in these (as bits)");
        ChangePlaces x = wishing("1", "0", "");
        due("two", x.reached(NONE), 2);
        due("of 0", x.reached(0), 3);
        due("of 1", x.reached(1), 3);
        due("of 2, who stays", x.reached(2), 4);
        due("none but as it is", land("places 8;person 7 1").reached(NONE), 1);
        due("its PLACE", land("places 8;person 7 1").reached(0), 128);
        due("nobody", land("places 2").reached(NONE), 1);
        due("all of three", land(THREE, RESTLESS).reached(NONE), 6);
        ring(x, 0, 1);
        due("from now on", x.reached(NONE), 1);
        // Whether two can change hangs on where both are.
        ChangePlaces four = land(FOUR, RESTLESS + ";bar person=0 and at=0 and to=3");
        due("all of four", four.reached(NONE), 24);
        due("all PLACES", four.reached(0), 15);
        force(four, RESTLESS + ";bar person=3 and at=3 and to=0;bar person=0 and at=0 and to=3;bar person=1 and at=1 and to=2");
        due("all of four", four.reached(NONE), 24);
        force(four, RESTLESS + ";bar person=3 and to<2;bar person=0 and to>1");
        due("0 is below 2, 3 above 1", four.reached(NONE), 8);
        due("PLACES of 0", four.reached(0), 3);
        due("PLACES of 3", four.reached(3), 12);
        due("PLACES of 1", four.reached(1), 15);
        sentence("reached: -2 without these (no COUNTRY)");
        for (int person : new int[] {FAR_BELOW, -2, 3, 10, FAR_ABOVE}) {
            due("reached(" + person + ")", x.reached(person), -2);
        }
        due("no COUNTRY", new ChangePlaces().reached(NONE), -2);
        due("no COUNTRY", new ChangePlaces().reached(0), -2);
        due("nobody", land("places 2").reached(0), -2);
    }

    private static final String MANY = "places 8;person 0 1;person 1 1;person 2 1;person 3 1;person 4 1;person 5 1;"
            + "person 6 1;person 7 1;person ";

    private static void journeysOf2000() {
        sentence("2000 at most, that in which it is so not counted: if the 2001st would come ahead of it, it is UNKNOWN");
        ChangePlaces x = land(MANY + "3 1;person 4 1;bench 0;bench 1;bench 3;bench 4;bench 5;bench 7;bench 8;bench 9;"
                + "wish 6 7 1;wish 6 5 1;wish 2 6 3;wish 8 1 7;wish 6 1 2;wish 1 6 7;wish 4 5 3;wish 4 6 8;wish 6 2 2;wish 5 4 6");
        due("1999 ahead of it", x.journey(3, 2), 3);
        x = land(MANY + "2 1;person 6 1;bench 1;bench 2;bench 4;bench 5;bench 6;bench 7;bench 8;bench 9;wish 3 6 3;"
                + "wish 9 6 9;wish 7 3 1;wish 8 1 7;wish 6 2 5;wish 0 3 8;wish 7 7 3;wish 5 3 3;wish 7 4 2");
        due("2000 ahead of it", x.journey(7, 0), 3);
        due("its ROW", x.row(7, 0, 2, 0) < 0, false);
        due("its ROW has 3", x.row(7, 0, 3, 0), -2);
        due("2001 ahead of it", x.journey(8, 0), -3);
        due("row: -3: UNKNOWN", x.row(8, 0, 0, 0), -3);
        due("row: -3: UNKNOWN", x.row(8, 0, FAR_ABOVE, 1), -3);
        due("row: k below 0", x.row(8, 0, -1, 1), NONE);
        due("there already", x.journey(8, 2), 0);
        sentence("REACHED: (UNKNOWN above 2000)");
        due("many", x.reached(NONE), -3);
        due("many, a PERSON", x.reached(8), -3);
        ChangePlaces brim = land("places 5;person 0 1;person 1 1;person 2 1;person 3 1;person 4 1;person 4 1;person 0 1;"
                + "person 4 1;person 0 1;bench 0;bench 1;bench 2;bench 3;bench 4;bench 5;bench 6;wish 0 0 8;wish 2 4 2;"
                + "wish 8 3 9;wish 7 1 1", "bar person=5 and to=3");
        due("2000", brim.reached(NONE), 2000);
        due("2000, a PERSON", brim.reached(5), 31 - 8);
        due("2000, and never", brim.journey(5, 3), -2);
        ChangePlaces over = land("places 7;person 0 1;person 1 1;person 2 1;person 3 1;person 4 1;person 5 1;person 6 1;"
                + "person 3 1;person 2 1;person 0 1;bench 1;bench 0;bench 7;bench 2;bench 6",
                "want 5-to;bar person=0 and to=1;bar person=7 and at=3;bar person=4 and at>5;bar person=3 and at<1;"
                + "bar person=4 and to<2;bar person=7 and at=5 and at>0;bar person=6 and at>4 and at=7");
        due("2001", over.reached(NONE), -3);
        due("2001, a PERSON", over.reached(0), -3);
        due("2001, and where nobody comes", over.journey(0, 1), -3);
    }

    // ---- DONE

    private static void founded(ChangePlaces x, int... places) {
        for (int person = 0; person < places.length; person++) {
            x.found(person, places[person]);
        }
    }

    private static void doneFewest() {
        sentence("DONE: from where all were at HOME, by RINGS of two, the fewest behind which all FOUND are so");
        ChangePlaces x = land(THREE, RESTLESS);
        due("none FOUND", x.done(0), 0);
        due("none FOUND: SITUATIONS", x.done(1), 1);
        due("none FOUND: one way alone", x.done(2), 1);
        founded(x, 0, 1, 2);
        due("all at HOME", x.done(0), 0);
        ring(x, 0, 1);
        due("from HOME, not from now", x.done(0), 0);
        founded(x, 1, 0, 2);
        due("as now", x.done(0), 1);
        founded(x, 1, 2, 0);
        due("two", x.done(0), 2);
        founded(x, NONE, NONE, 0);
        due("one of them FOUND", x.done(0), 1);
        founded(x, 1, 1, NONE);
        due("two at a PLACE of one", x.done(0), -2);
        due("never: SITUATIONS", x.done(1), -2);
        due("never: one way", x.done(2), -2);
        due("nobody", land("places 2").done(0), 0);
        due("nobody: SITUATIONS", land("places 2").done(1), 1);
        sentence("DONE: how many SITUATIONS with so few are so");
        x = land("places 2;person 0 1;person 1 1;person 1 1;person 1 1", RESTLESS);
        x.found(0, 1);
        due("with each of three", x.done(1), 3);
        x.found(1, 1);
        due("with each of two", x.done(1), 2);
        x.found(2, 0);
        due("with one", x.done(1), 1);
        // The others are so with 3 RINGS, too: these are not counted.
        x = land(THREE, RESTLESS);
        x.found(0, 0);
        due("with none alone", x.done(1), 1);
        founded(x, 1, 2, 0);
        due("behind two RINGS", x.done(1), 1);
        founded(x, 0, NONE, NONE);
        due("with none alone, though others have come", x.done(1), 1);
        sentence("done: NONE without these, or a COUNTRY");
        for (int what : new int[] {FAR_BELOW, -2, -1, 3, 4, FAR_ABOVE}) {
            due("done(" + what + ")", x.done(what), NONE);
        }
        for (int what = 0; what < 3; what++) {
            due("no COUNTRY", new ChangePlaces().done(what), NONE);
        }
    }

    private static void doneWays() {
        sentence("DONE: whether there is one way alone to the first of these (of all ways of so few RINGS)");
        ChangePlaces x = land(THREE, RESTLESS);
        founded(x, 1, 0, 2);
        due("one RING", x.done(2), 1);
        founded(x, 1, 2, 0);
        due("three ways of two", x.done(2), 0);
        // (0 1) (1 2), (0 2) (0 1) and (1 2) (0 2): the second is barred, then the first, too, then all.
        force(x, RESTLESS + ";bar person=0 and to=2");
        due("two ways of two", x.done(0), 2);
        due("two ways of two", x.done(2), 0);
        force(x, RESTLESS + ";bar person=2 and at=2 and to=0");
        due("one way of two", x.done(0), 2);
        due("one way of two alone", x.done(2), 1);
        force(x, RESTLESS + ";bar person=2 and at=2 and to<2");
        due("no way", x.done(2), -2);
        // Two RINGS apart, in two orders.
        x = land(FOUR, RESTLESS);
        founded(x, 1, 0, 3, 2);
        due("two orders", x.done(0), 2);
        due("two orders", x.done(2), 0);
        founded(x, 1, 2, 3, 0);
        due("three RINGS", x.done(0), 3);
        due("sixteen ways of three", x.done(2), 0);
        founded(x, 1, 0, 2, 3);
        due("one RING, though more have come", x.done(0), 1);
        due("one way, though others lead there by more RINGS", x.done(2), 1);
        founded(x, 0, 1, 2, 3);
        due("HOME, though others lead there", x.done(2), 1);
        sentence("DONE: to the first of these alone");
        // 0 to 1 by 1 or by 2, who are there, each with one way; by both together two SITUATIONS.
        x = land("places 2;person 0 1;person 1 1;person 1 1", RESTLESS);
        x.found(0, 1);
        due("two SITUATIONS", x.done(1), 2);
        due("one way to the first", x.done(2), 1);
    }

    private static void doneOf2000() {
        sentence("(All SITUATIONS with so few RINGS come here; if there are more than 2000 by then, it is UNKNOWN.)");
        // With at most 3 RINGS 776, with 4 2000, with 5 3240.
        ChangePlaces x = land("places 7;person 0 1;person 1 1;person 2 1;person 3 1;person 4 1;person 5 1;person 6 1;"
                + "bench 0;bench 1;bench 2;bench 3;bench 4;bench 5;bench 6", "bar person=2 and to=5;bar person=5 and to=2");
        founded(x, 4, 0, 1, 2, 3, 5, 6);
        due("the first with 4", x.done(0), 4);
        due("SITUATIONS", x.done(1), 1);
        due("ways", x.done(2), 0);
        founded(x, 0, 1, 3, 4, 5, 6, 2);
        due("the 2000th", x.done(0), 4);
        founded(x, 0, 1, 2, 3, 4, 5, 6);
        due("HOME", x.done(0), 0);
        founded(x, 5, 0, 1, 2, 3, 4, 6);
        due("the 2001st, with 5", x.done(0), -3);
        due("the 2001st, with 5: SITUATIONS", x.done(1), -3);
        due("the 2001st, with 5: ways", x.done(2), -3);
        founded(x, 0, 1, 3, 4, 5, 6, 2);
        due("the 2000th once more", x.done(0), 4);
        due("the 2000th once more: SITUATIONS", x.done(1), 1);
        // With at most 3 RINGS 761, with 4 2001.
        x = land("places 6;person 0 1;person 1 1;person 2 1;person 3 1;person 4 1;person 5 1;person 0 1;person 2 1;bench 1;"
                + "bench 2;bench 3;bench 4;bench 5;bench 6;bench 7;wish 0 2 2;wish 6 2 7", "bar person=5 and to=2;bar person=2 and to=1");
        founded(x, 2, 4, 3, 1, 0, 5, 0, 2);
        due("one that comes early among these with 4", x.done(0), -3);
        founded(x, 0, 1, 2, 4, 5, 0, 2, 3);
        due("the last of these with 4", x.done(0), -3);
        founded(x, 0, 2, 1, 3, 4, 5, 0, 2);
        due("never, but there are too many", x.done(0), -3);
        founded(x, 0, 1, 2, 4, 5, 3, 0, 2);
        due("with 2", x.done(0), 2);
    }

    // ---- DOCTORS

    private static void doctors() {
        sentence("DOCTORS: a PLACE serves a call, if it is that of the call, or a PERSON at that of the call would go to it by LAW 2");
        String text = "places 3;call 0;call 1;person 0 1;person 1 1;wish 0 0 5;wish 0 2 ";
        due("less", land(text + "4").served(4), 0);
        due("alike", land(text + "5").served(4), 0);
        due("above", land(text + "6").served(4), 1);
        due("of the bench", land(text + "4;bench 0").served(4), 1);
        due("where nobody is", land("places 3;call 2").served(4), 1);
        due("LAW 3 is not asked", land(text + "6", "want wish;bar 1=1").served(4), 1);
        due("by who is there alone", land("places 3;call 0;person 1 1;bench 0").served(4), 0);
        due("where nobody is, all being restless", land("places 3;call 0;person 1 1", RESTLESS).served(6), 0);
        due("where nobody is at all", land("places 3;call 0", RESTLESS).served(6), 0);
        sentence("DOCTORS: The fewest PLACES by which all calls are served, of several the least as bits");
        due("no calls", land("places 8;person 0 1").doctors(NONE), 0);
        due("one call", land("places 8;call 7").doctors(NONE), 128);
        String calls = ";call 0;call 1;call 2;call 3;call 4;call 5;call 6;call 7";
        due("all PLACES", land("places 8" + calls).doctors(NONE), 255);
        due("any one of all", land(people(8, calls), RESTLESS).doctors(NONE), 1);
        due("the least of two sets of one", land("places 4;call 3;call 2;person 3 1;person 2 1;wish 0 2 1;wish 1 3 1").doctors(NONE), 4);
        due("1 and 8, rather than 2 and 4", land("places 4;call 0;call 3;person 3 1;wish 0 2 1").doctors(NONE), 5);
        sentence("DOCTORS: n of these (0 to 8): by which n PLACES most calls are served, of several the least as bits");
        ChangePlaces x = land("places 8;call 7;call 7;call 3;call 5;call 5");
        due("0", x.doctors(0), 0);
        due("1", x.doctors(1), 32);
        due("2", x.doctors(2), 32 + 128);
        due("3", x.doctors(3), 8 + 32 + 128);
        due("4", x.doctors(4), 1 + 8 + 32 + 128);
        due("7", x.doctors(7), 255 - 64);
        due("8", x.doctors(8), 255);
        due("no calls", land("places 8").doctors(3), 7);
        sentence("doctors: n PLACES, as bits (as many as there are PLACES, if n is more)");
        for (int n = 2; n <= 8; n++) {
            due("doctors(" + n + ") of 2", land("places 2;call 1").doctors(n), 3);
        }
        due("doctors(1) of 2", land("places 2;call 1").doctors(1), 2);
        sentence("doctors: -2 without these (no COUNTRY)");
        for (int n : new int[] {FAR_BELOW, -3, -2, 9, 10, FAR_ABOVE}) {
            due("doctors(" + n + ")", x.doctors(n), -2);
        }
        due("no COUNTRY", new ChangePlaces().doctors(NONE), -2);
        due("no COUNTRY", new ChangePlaces().doctors(0), -2);
    }

    private static void served() {
        sentence("served: Calls that are served by a set of PLACES; NONE without these");
        ChangePlaces x = land("places 8;call 7;call 7;call 3;call 5;call 5;call 0");
        due("by none", x.served(0), 0);
        due("by the least", x.served(1), 1);
        due("by the greatest", x.served(128), 2);
        due("by all", x.served(255), 6);
        due("by one without calls", x.served(2), 0);
        for (int places : new int[] {FAR_BELOW, -2, -1, 256, 257, 512, FAR_ABOVE}) {
            due("served(" + places + ")", x.served(places), NONE);
        }
        ChangePlaces two = land("places 2;call 1");
        due("by both", two.served(3), 1);
        due("by a third", two.served(4), NONE);
        due("no COUNTRY", new ChangePlaces().served(0), NONE);
    }

    // ---- LIES

    private static void liars() {
        sentence("LIES: who can gain so under MOST with rings of at most 2 (as bits)");
        // 0 changes with 2 who gains more; 1 says to LIKE 0 by 999.
        ChangePlaces x = land("places 2;person 0 1;person 1 1;person 1 1;wish 0 1 5;wish 1 0 3;wish 2 0 9");
        due("1 alone", x.liars(0), 2);
        due("lie of 0", x.lie(0, 0), -2);
        due("lie of 1", x.lie(0, 1), 0);
        due("lie of 2", x.lie(0, 2), -2);
        due("nobody", land("places 2").liars(0), 0);
        due("all content", land("places 2;person 0 1;person 1 1").liars(0), 0);
        String text = "places 2;person 0 1;person 1 1;person 1 1;person 1 1;wish 0 1 5;wish 1 0 3;wish 2 0 4;wish 3 0 9";
        due("two of them", land(text).liars(0), 6);
        due("the least bit", land("places 2;person 1 1;person 1 1;person 0 1;wish 2 1 5;wish 0 0 3;wish 1 0 9").liars(0), 1);
        sentence("MOST is as it was behind LIES");
        x = land(text);
        due("most", x.most(2, 0), 14);
        takes(x, 2, 3, 1, 2, 0);
        due("liars", x.liars(0), 6);
        due("most behind LIES", x.most(2, 0), 14);
        takes(x, 2, 3, 1, 2, 0);
        due("blocks behind LIES", x.blocks(2), 0);
        sentence("LIES: under MOST with rings of at most 2");
        // 1 changes with 0 by a lie; by a RING of 1 3 4 they would come to 2, which they LIKE most.
        text = "places 4;person 0 1;person 1 1;person 1 1;person 2 1;person 3 1;wish 1 2 8;wish 3 3 5;wish 4 1 5";
        due("a RING of three is none", land(text).lie(0, 1), -2);
        due("a RING of three is none", land(text).liars(0), 0);
        due("what they come to else is not by three", land(text + ";wish 0 1 5;wish 1 0 3;wish 2 0 9").lie(0, 1), 0);
        sentence("LIES: as if 999 for it and 0 for all others");
        String heard = "want 5 if person=0 and to=1;want 3 if person=1 and to=0;want 999 if person=2 and to=0;";
        text = "places 2;person 0 1;person 1 1;person 1 1";
        due("as much as 999, and ahead", land(text, heard + "want 0").lie(0, 1), 0);
        due("less than 1000", land(text, heard + "want 0-1 if person=2;want 0").lie(0, 1), -2);
        due("999 is heard from where they LIKE it less than 0", land(text, heard + "want 0-5 if person=1;want 0").lie(0, 1), 0);
        // Ten: 0 to 7 each at a PLACE of their own, 9 with 1: both would to 0, 0 to 1; 9 is heard less.
        x = land(people(10, ";wish 0 1 5;wish 1 0 9;wish 9 0 3"));
        due("the greatest bit", x.liars(0), 512);
        due("lie of 9", x.lie(0, 9), 0);
        sentence("LIES: who the CORE");
        due("none", x.liars(1), 0);
        due("lie of 9", x.lie(1, 9), -2);
        sentence("LIES: by which PLACE first (the least)");
        // 3 would to 1 (2) or 2 (3), where 0 and 4 are heard first.
        x = land("places 4;person 3 1;person 1 1;person 2 1;person 3 1;person 3 1;wish 0 1 9;wish 4 2 9;wish 1 3 5;"
                + "wish 2 3 1;wish 3 1 2;wish 3 2 3");
        due("they stay else", x.mostOf(2, 3), 3);
        due("the least, though another is LIKED more", x.lie(0, 3), 1);
        x.desire(0, 1, 0);
        due("they come to 1 else", x.mostOf(2, 3), 1);
        due("the only one LIKED more than that", x.lie(0, 3), 2);
        sentence("LIES: they LIKE it truly more than where they would come else");
        x = land("places 2;person 0 1;person 1 1;person 1 1;wish 0 1 5;wish 1 0 3;wish 1 1 3;wish 2 0 9");
        due("alike is no gain", x.lie(0, 1), -2);
        x.desire(1, 1, 2);
        due("more by one", x.lie(0, 1), 0);
        sentence("liars, lie: NONE without these, or a COUNTRY");
        for (int what : new int[] {FAR_BELOW, -2, -1, 2, 3, FAR_ABOVE}) {
            due("liars(" + what + ")", x.liars(what), NONE);
            due("lie(" + what + ", 0)", x.lie(what, 0), NONE);
        }
        for (int person : new int[] {FAR_BELOW, -2, -1, 3, 10, FAR_ABOVE}) {
            due("lie(0, " + person + ")", x.lie(0, person), NONE);
            due("lie(1, " + person + ")", x.lie(1, person), NONE);
        }
        due("no COUNTRY", new ChangePlaces().liars(0), NONE);
        due("no COUNTRY", new ChangePlaces().liars(1), NONE);
        due("no COUNTRY", new ChangePlaces().lie(0, 0), NONE);
    }

    // ---- DRAWS

    /** RINGS, coal and PEOPLE content of PEOPLE who are all restless, each heavier than those told ahead by one. */
    private static int[] lived(int people, int seed, int m, int n) {
        long x = seed;
        int rings = 0;
        int coal = 0;
        for (int year = 0; year < m; year++) {
            int[] at = new int[people];
            for (int person = 0; person < people; person++) {
                at[person] = person % 8;
            }
            for (int i = 0; i < n; i++) {
                x = (x * 1103515245L + 12345L) % 2147483648L;
                int one = (int) (x / 65536 % people);
                x = (x * 1103515245L + 12345L) % 2147483648L;
                int other = (int) (x / 65536 % people);
                if (at[one] != at[other]) {
                    int place = at[one];
                    at[one] = at[other];
                    at[other] = place;
                    rings++;
                    coal += Math.abs(one - other);
                }
            }
        }
        return new int[] {rings, coal};
    }

    private static void draws() {
        sentence("DRAWS: x becomes x * 1103515245 + 12345, of 2147483648 the rest; a DRAW is x / 65536");
        for (int people : new int[] {1, 2, 3, 7, 10}) {
            ChangePlaces x = land(people(people, ""), RESTLESS);
            for (int seed : new int[] {0, 1, 65535, 65536, 12345, FAR_ABOVE - 1, FAR_ABOVE}) {
                x.seed(seed);
                for (int[] times : new int[][] {{1, 1}, {1, 2}, {2, 1}, {1, 200}, {20, 1}, {20, 200}, {3, 17}}) {
                    int[] want = lived(people, seed, times[0], times[1]);
                    String call = "years(" + times[0] + ", " + times[1] + ") of " + people + " from " + seed;
                    due(call + ", RINGS", x.years(times[0], times[1], 0), want[0]);
                    due(call + ", coal", x.years(times[0], times[1], 1), want[1]);
                }
                due("x as it was", x.count(12), seed);
            }
        }
    }

    private static void years() {
        sentence("YEARS m times (1 to 20) n DRAWN twos (1 to 200)");
        ChangePlaces x = midst();
        for (int m : new int[] {FAR_BELOW, -1, 0, 21, 22, FAR_ABOVE}) {
            due("years(" + m + ", 1, 0)", x.years(m, 1, 0), NONE);
        }
        for (int n : new int[] {FAR_BELOW, -1, 0, 201, 202, FAR_ABOVE}) {
            due("years(1, " + n + ", 0)", x.years(1, n, 0), NONE);
        }
        for (int what : new int[] {FAR_BELOW, -2, -1, 3, 4, FAR_ABOVE}) {
            due("years(1, 1, " + what + ")", x.years(1, 1, what), NONE);
        }
        sentence("years: NONE without these, or PEOPLE");
        for (int what = 0; what < 3; what++) {
            due("no COUNTRY", new ChangePlaces().years(1, 1, what), NONE);
            due("nobody", land("places 2").years(1, 1, what), NONE);
        }
        sentence("YEARS: if these are unlike");
        ChangePlaces one = land("places 2;person 0 1;bench 0");
        due("one PERSON, RINGS", one.years(20, 200, 0), 0);
        due("one PERSON, coal", one.years(20, 200, 1), 0);
        sentence("YEARS: PEOPLE who are where they LIKE it most at the end, all together");
        due("one PERSON, content 20 times", one.years(20, 1, 2), 20);
        one.desire(0, 1, 1);
        due("one PERSON, never content", one.years(20, 1, 2), 0);
        // From 0 the DRAWS are 0 21468 (0 0), 9988 22117 (0 1), so it is by the second two that they change.
        ChangePlaces two = land("places 2;person 0 1;person 1 1;wish 0 1 5;wish 1 0 5");
        due("not yet", two.years(1, 1, 2), 0);
        due("both, then for good", two.years(1, 2, 2), 2);
        due("RINGS", two.years(1, 200, 0), 1);
        due("20 times", two.years(20, 200, 2), 40);
        due("20 times", two.years(20, 200, 0), 20);
        sentence("YEARS: (moved, OWED grow then)");
        ChangePlaces y = land("places 2;person 0 3;person 1 1", RESTLESS + ";bar moved>4");
        due("till moved is 5", y.years(1, 200, 0), 5);
        due("each time anew", y.years(20, 200, 0), 100);
        force(y, RESTLESS + ";bar owes>9");
        due("till 10 are OWED", y.years(1, 200, 1), 10);
        due("each time anew", y.years(20, 200, 1), 200);
        force(y, "want 9 if not to=at and moved<3;want 0");
        due("content when moved thrice", y.years(7, 200, 2), 14);
        ring(y, 0, 1);
        due("from now on: twice more", y.years(1, 200, 0), 2);
        force(y, RESTLESS + ";bar day>1");
        y.dawn();
        due("DAY as now", y.years(1, 200, 0), 0);
        sentence("YEARS: (nothing stays; x as it was)");
        asks("years", Edges::midst, z -> z.years(20, 200, 0) + z.years(20, 200, 1) + z.years(20, 200, 2));
    }
}
