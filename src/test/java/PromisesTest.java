/** For each promise: ordinary inputs, the edges that the document names, wrong inputs; worked out by hand. */
public final class PromisesTest {
    private static final int NONE = ChangePlaces.NONE;
    private static int wrong = 0;
    private static int promise = 0;

    /** Three in a ring: 0 would have 1's place, 1 that of 2 (or of 0), 2 that of 0. */
    private static final String THREE = "places 3;person 0 10;person 1 6;person 2 8;"
            + "wish 0 1 9;wish 1 2 5;wish 2 0 7;wish 1 0 3;call 1;call 2";
    private static final String RESTLESS = "want 9 if not to = at; want 0";

    private static void due(String call, long got, long want) {
        if (got != want) {
            wrong++;
            System.out.println("promise " + promise + ": " + call + " answered " + got + ", due is " + want);
        }
    }

    private static void due(String call, boolean got, boolean want) {
        due(call, got ? 1 : 0, want ? 1 : 0);
    }

    private static void say(ChangePlaces x, String text) {
        due("end(0)", x.end(0), 0);
        for (int i = 0; i < text.length(); i += 20) {
            int[] v = new int[5];
            for (int j = 0; j < 20; j++) {
                v[j / 4] = v[j / 4] << 8 | (i + j < text.length() ? text.charAt(i + j) : 0);
            }
            x.feed(v[0], v[1], v[2], v[3], v[4]);
        }
        due("end of " + text, x.end(text.length()), text.length());
    }

    private static ChangePlaces land(String text) {
        ChangePlaces x = new ChangePlaces();
        say(x, text);
        if (x.country() < 0) {
            due("country of " + text, -1, 0);
        }
        return x;
    }

    private static int force(ChangePlaces x, String rule) {
        say(x, rule);
        int number = x.rule();
        if (number < 0) {
            due("rule of " + rule, number, 0);
        }
        x.force(number);
        return number;
    }

    private static int ring(ChangePlaces x, int... people) {
        x.call(NONE);
        for (int person : people) {
            x.call(person);
        }
        return x.go();
    }

    private static int tell(ChangePlaces x, int... people) {
        x.call(NONE);
        for (int person : people) {
            x.call(person);
        }
        return x.book();
    }

    private static int fault(int place, int kind) {
        return -2 - (1 + 8 * place + kind);
    }

    private static void countryFault(String text, int place, int kind) {
        ChangePlaces x = land("places 2;person 1 7");
        say(x, text);
        due("country of '" + text + "'", x.country(), fault(place, kind));
        due("count(13) behind a FAULT", x.count(13), 0);
        due("person(0, 1) behind a FAULT", x.person(0, 1), 7);
    }

    private static void countrySound(String text, int people) {
        ChangePlaces x = new ChangePlaces();
        say(x, text);
        due("country of '" + text + "'", x.country(), people);
        due("count(13)", x.count(13), 0);
    }

    private static void ruleFault(String text, int place, int kind) {
        ChangePlaces x = new ChangePlaces();
        say(x, text);
        due("rule of '" + text + "'", x.rule(), fault(place, kind));
        due("count(13) behind a FAULT", x.count(13), 0);
        due("count(3) behind a FAULT", x.count(3), 0);
    }

    private static void ruleSound(String text) {
        ChangePlaces x = new ChangePlaces();
        say(x, text);
        due("rule of '" + text + "'", x.rule(), 0);
        due("count(13)", x.count(13), 0);
        due("count(3)", x.count(3), 1);
    }

    /** What a want comes to for PERSON 0 of THREE as to PLACE 1. */
    private static void sum(String sum, int want) {
        ChangePlaces x = land(THREE);
        force(x, "want " + sum);
        due("liking(0, 1) by " + sum, x.liking(0, 1), want);
    }

    private static void test(String test, boolean holds) {
        ChangePlaces x = land(THREE);
        force(x, "want 1 if " + test + ";want 0");
        due("liking(0, 1) by " + test, x.liking(0, 1), holds ? 1 : 0);
    }

    /** Whether PERSON 0 of THREE may not change with 1 by a bar. */
    private static void bar(String test, boolean holds) {
        ChangePlaces x = land(THREE);
        force(x, "bar person = 0 and [" + test + "]");
        x.call(0);
        x.call(1);
        due("may() by bar " + test, x.may(), holds ? 3 : 0);
    }

    public static void main(String[] args) {
        promise = 1;
        newObject();
        promise = 2;
        tape();
        promise = 4;
        countries();
        promise = 5;
        rules();
        promise = 6;
        forced();
        promise = 7;
        looks();
        promise = 9;
        likings();
        promise = 12;
        byHand();
        promise = 13;
        laws();
        promise = 15;
        undone();
        promise = 17;
        coal();
        promise = 20;
        books();
        promise = 25;
        changing();
        promise = 26;
        mosts();
        promise = 28;
        cores();
        promise = 30;
        journeys();
        promise = 34;
        founds();
        promise = 35;
        doctors();
        promise = 37;
        lies();
        promise = 40;
        years();
        promise = 41;
        counts();
        promise = 42;
        images();
        System.out.println(wrong == 0 ? "all promises hold" : wrong + " answers are not as due");
        if (wrong != 0) {
            System.exit(1);
        }
    }

    private static void newObject() {
        ChangePlaces x = new ChangePlaces();
        for (int what = 0; what < 14; what++) {
            due("count(" + what + ")", x.count(what), what == 4 ? NONE : 0);
        }
        due("count(-1)", x.count(-1), NONE);
        due("count(14)", x.count(14), NONE);
        due("person", x.person(0, 0), NONE);
        due("wish", x.wish(0, 0), NONE);
        due("liking", x.liking(0, 0), -1000);
        due("desire", x.desire(0, 0, 1), NONE);
        due("place", x.place(0, 0), NONE);
        due("call(0)", x.call(0), -2);
        due("call(NONE)", x.call(NONE), 0);
        due("may", x.may(), NONE);
        due("go", x.go(), NONE);
        due("undo", x.undo(), NONE);
        due("owes", x.owes(0, 1), NONE);
        due("pay", x.pay(0, 1, 1), NONE);
        due("strike", x.strike(), NONE);
        due("dawn", x.dawn(), NONE);
        due("book", x.book(), NONE);
        due("burn", x.burn(), 0);
        due("judged(0)", x.judged(0), NONE);
        due("judged(1)", x.judged(1), 0);
        due("then", x.then(0), NONE);
        due("laidOut(0)", x.laidOut(0), -2);
        due("laidOut(NONE)", x.laidOut(NONE), 0);
        due("changers", x.changers(0, 2), NONE);
        due("most", x.most(2, 0), NONE);
        due("mostOf", x.mostOf(2, 0), NONE);
        due("core", x.core(0), NONE);
        due("blocks", x.blocks(0), NONE);
        due("journey", x.journey(0, 0), NONE);
        due("row", x.row(0, 0, 0, 0), NONE);
        due("reached", x.reached(NONE), -2);
        due("found", x.found(0, 0), false);
        due("done", x.done(0), NONE);
        due("doctors", x.doctors(NONE), -2);
        due("served", x.served(0), NONE);
        due("liars", x.liars(0), NONE);
        due("lie", x.lie(0, 0), NONE);
        due("years", x.years(1, 1, 0), NONE);
        due("seed(7)", x.seed(7), 0);
        due("seed(-1)", x.seed(-1), NONE);
        due("seed(2147483647)", x.seed(2147483647), 7);
        due("seed(0)", x.seed(0), 2147483647);
    }

    private static void tape() {
        ChangePlaces x = new ChangePlaces();
        for (int i = 1; i <= 20; i++) {
            due("feed", x.feed(0x706c6163, 0x65732032, -1, 0, 0), 20 * i);
        }
        due("feed beyond 400", x.feed(0, 0, 0, 0, 0), NONE);
        due("count(13)", x.count(13), 400);
        promise = 3;
        due("end(401)", x.end(401), NONE);
        due("end(-1)", x.end(-1), NONE);
        due("end(400)", x.end(400), 400);
        due("end(380)", x.end(380), 380);
        due("end(381)", x.end(381), NONE);
        due("feed", x.feed(1, 2, 3, 4, 5), 400);
        due("end(8)", x.end(8), 8);
        due("count(13)", x.count(13), 8);
        due("country of 'places 2'", x.country(), 0);
        due("end(0)", x.end(0), 0);
        due("end(1)", x.end(1), NONE);
    }

    private static void countries() {
        countryFault("", 0, 0);
        countryFault("   ", 3, 0);
        countryFault("places", 6, 0);
        countryFault("places  ", 8, 0);
        countryFault("places 1", 7, 1);
        countryFault("places 9", 7, 1);
        countryFault("places 000002", 7, 1);
        countryFault("placess 2", 0, 0);
        countryFault("placesz 2", 0, 0);
        countryFault("aplaces 2", 0, 0);
        countryFault(";".repeat(400), 0, 0);
        countryFault("places 2" + " ".repeat(390) + ";;", 399, 0);
        countryFault("places 2;" + " ".repeat(391), 400, 0);
        countryFault("Places 2", 0, 0);
        countryFault("plaCes 2", 0, 0);
        countryFault(" pl 2", 1, 0);
        countryFault("weight 2", 0, 0);
        countryFault("person 0 1", 0, 4);
        countryFault("  call 0", 2, 4);
        countryFault("places 2;places 2", 9, 4);
        countryFault("places 2;place 2", 9, 0);
        countryFault("places 2;person 2 1", 16, 1);
        countryFault("places 2;person 0 0", 18, 1);
        countryFault("places 2;person 0 100", 18, 1);
        countryFault("places 2;person 0", 17, 0);
        countryFault("places 2;person 0;", 17, 0);
        countryFault("places 2;person x", 16, 0);
        countryFault("places 2;wish 0 0 1", 14, 1);
        countryFault("places 2;person 0 1;wish 0 2 1", 27, 1);
        countryFault("places 2;person 0 1;wish 0 0 0", 29, 1);
        countryFault("places 2;person 0 1;wish 1 0 1", 25, 1);
        countryFault("places 2;bench 0", 15, 1);
        countryFault("places 2;call 2", 14, 1);
        countryFault("places 2;", 9, 0);
        countryFault("places 2; ", 10, 0);
        countryFault("places 2;;call 1", 9, 0);
        countryFault("places 2 2", 9, 0);
        countryFault("places 2" + (char) 0, 8, 0);
        countryFault("places 2" + (char) 9, 8, 0);
        countryFault("places 2" + (char) 255, 8, 0);
        countryFault("places 2,", 8, 0);
        String ten = "places 2" + ";person 0 1".repeat(10);
        countrySound(ten, 10);
        countryFault(ten + ";person 0 1", 119, 4);
        countryFault(ten + ";perso 0 1", 119, 0);
        String eight = "places 2" + ";call 0".repeat(8);
        countrySound(eight, 0);
        countryFault(eight + ";call 0", 65, 4);
        countryFault(eight + ";cal 0", 65, 0);
        String full = "places 2;person 0 1" + ";bench0".repeat(46);
        countrySound(full, 1);
        countryFault(full + ";bench0", 342, 4);
        countryFault(full + ";bench9", 342, 4);
        countryFault(full + ";benc0", 342, 0);
        countryFault(full + ";", 342, 0);
        countrySound("places 2", 0);
        countrySound(" places  00008 ;person 7 99 ; call7", 1);
        ChangePlaces x = land("places 3;person 1 5;wish 0 2 4;wish 0 2 6;bench 0;call 2;call 2");
        due("wish told twice", x.wish(0, 2), 6);
        due("count(0)", x.count(0), 3);
        due("count(2)", x.count(2), 2);
        due("count(5)", x.count(5), 1);
        countryAnew();
    }

    private static void countryAnew() {
        ChangePlaces x = land(THREE);
        force(x, "want wish");
        x.seed(5);
        due("go", ring(x, 0, 1, 2), 4);
        x.dawn();
        x.found(0, 1);
        tell(x, 0, 1);
        x.call(2);
        say(x, "places 2;person 1 4;person 0 2");
        due("country anew", x.country(), 2);
        int[] want = {2, 2, 0, 1, 0, 1, 0, 0, 0, 0, 0, 0, 5, 0};
        for (int what = 0; what < want.length; what++) {
            due("count(" + what + ") anew", x.count(what), want[what]);
        }
        due("person(0, 0)", x.person(0, 0), 1);
        due("person(0, 4)", x.person(0, 4), 0);
        due("wish(0, 1)", x.wish(0, 1), 0);
    }

    private static void rules() {
        ruleFault("", 0, 0);
        ruleFault("bar", 3, 0);
        ruleFault("want", 4, 0);
        ruleFault("want 1 if", 9, 0);
        ruleFault("want 1 iff 1=1", 7, 0);
        ruleFault("bar 1", 5, 0);
        ruleFault("bar 1=1 if 2=2", 8, 0);
        ruleFault("wants 1", 0, 0);
        ruleFault("want x", 5, 0);
        ruleFault("want places", 5, 0);
        ruleFault("want 1;", 7, 0);
        ruleFault("want 1 2", 7, 0);
        ruleFault("bar day = 1]", 11, 0);
        ruleFault("bar [day = 1", 12, 0);
        ruleFault("bar [day] = 1", 8, 0);
        ruleFault("bar day < = 1", 10, 0);
        ruleFault("bar day =< 1", 9, 0);
        ruleFault("bar day == 1", 9, 0);
        ruleFault("bar day >< 1", 9, 0);
        ruleFault("bar 1=1 and or 2=2", 12, 0);
        ruleFault("bar not", 7, 0);
        ruleFault("bar notday = 1", 4, 0);
        ruleFault("want -5", 5, 0);
        ruleFault("want 1 + ", 9, 0);
        ruleFault("bar" + "[".repeat(397), 13, 2);
        ruleFault("want 1" + ";".repeat(394), 7, 0);
        ruleFault("want 123456", 5, 1);
        ruleFault("want 1+000001", 7, 1);
        ruleFault("want 1 123456", 7, 0);
        ruleSound("want 99999");
        ruleSound("bar[not 1<2or 3>=4and at=to]and 1<=1;want 1-2*3/4if weight>1");
        ruleSound("bar " + "not ".repeat(10) + "1=1");
        ruleFault("bar " + "not ".repeat(11) + "1=1", 44, 2);
        ruleSound("bar " + "[".repeat(10) + "1=1" + "]".repeat(10));
        ruleFault("bar " + "[".repeat(11) + "1=1", 14, 2);
        ruleFault("bar " + "[not ".repeat(5) + "[1=1", 29, 2);
        ruleFault("bar " + "not[".repeat(5) + "not 1=1", 24, 2);
        ruleSound("bar " + "[".repeat(10) + "1=1" + "]".repeat(10) + " or " + "not ".repeat(10) + "1=1");
        String sixty = "want 1" + "+1".repeat(59);
        ruleSound(sixty);
        ruleFault(sixty + "+1", 125, 3);
        ruleFault(sixty + "+day", 125, 3);
        ruleFault(sixty + "+days", 125, 0);
        ruleFault(sixty + "+123456", 125, 1);
        ruleFault(sixty + ";want 1", 130, 3);
        ruleFault("want 1" + "+1".repeat(58) + " if 1=1", 127, 3);
        ruleFault("want 1" + "+1".repeat(57) + " if 1=1", 126, 3);
        ruleSound("want 1" + "+1".repeat(56) + " if 1=1");
        String twelve = "want 1" + ";want 1".repeat(11);
        ruleSound(twelve);
        ruleFault(twelve + ";want 1", 84, 4);
        ruleFault(twelve + ";bar", 84, 4);
        ruleFault(twelve + ";wan 1", 84, 0);
        ruleFault(twelve + ";", 84, 0);
        ChangePlaces x = new ChangePlaces();
        for (int i = 0; i < 6; i++) {
            say(x, "want " + i);
            due("rule", x.rule(), i);
        }
        say(x, "nonsense");
        due("a seventh rule", x.rule(), NONE);
        due("count(13)", x.count(13), 8);
        due("count(3)", x.count(3), 6);
    }

    private static void forced() {
        ChangePlaces x = new ChangePlaces();
        due("force(0) without", x.force(0), -2);
        due("force(-2)", x.force(-2), -2);
        due("force(NONE)", x.force(NONE), NONE);
        say(x, "want 1");
        x.rule();
        say(x, "want 2");
        x.rule();
        due("force(1)", x.force(1), NONE);
        due("force(0)", x.force(0), 1);
        due("force(2)", x.force(2), -2);
        due("count(4)", x.count(4), 0);
        due("force(NONE)", x.force(NONE), 0);
        due("count(4)", x.count(4), NONE);
    }

    private static void looks() {
        ChangePlaces x = land(THREE + ";bench 2");
        due("go", ring(x, 0, 1), 4);
        int[][] want = {
            {1, 10, 0, 0, 1, 4, 0, 1},
            {0, 6, 1, 0, 1, 0, 4, 0},
            {2, 8, 2, 1, 0, 0, 0, 0},
        };
        for (int person = 0; person < 3; person++) {
            for (int what = 0; what < 8; what++) {
                due("person(" + person + ", " + what + ")", x.person(person, what), want[person][what]);
            }
        }
        due("person(0, 8)", x.person(0, 8), NONE);
        due("person(0, -1)", x.person(0, -1), NONE);
        due("person(3, 0)", x.person(3, 0), NONE);
        due("person(-1, 0)", x.person(-1, 0), NONE);
        promise = 8;
        due("wish(1, 2)", x.wish(1, 2), 5);
        due("wish(1, 1)", x.wish(1, 1), 0);
        due("wish(3, 1)", x.wish(3, 1), NONE);
        due("wish(1, 3)", x.wish(1, 3), NONE);
        due("wish(1, -1)", x.wish(1, -1), NONE);
        promise = 10;
        due("desire(1, 1, 100)", x.desire(1, 1, 100), NONE);
        due("desire(1, 1, -1)", x.desire(1, 1, -1), NONE);
        due("desire(1, 3, 1)", x.desire(1, 3, 1), NONE);
        due("desire(3, 1, 1)", x.desire(3, 1, 1), NONE);
        due("desire(1, 1, 99)", x.desire(1, 1, 99), 0);
        due("wish(1, 1)", x.wish(1, 1), 99);
        due("liking(1, 1)", x.liking(1, 1), 99);
        due("desire(1, 1, 0)", x.desire(1, 1, 0), 99);
        due("wish(1, 1)", x.wish(1, 1), 0);
        promise = 11;
        // 0 is at 1 and content, 1 at 0 and would to 2, 2 at 2 and would to 0.
        int[][] places = {{2, 4, 2, 0}, {1, 0, 0, 1}, {4, 2, 4, 1}};
        for (int place = 0; place < 3; place++) {
            for (int what = 0; what < 4; what++) {
                due("place(" + place + ", " + what + ")", x.place(place, what), places[place][what]);
            }
        }
        due("place(3, 0)", x.place(3, 0), NONE);
        due("place(-1, 0)", x.place(-1, 0), NONE);
        due("place(0, 4)", x.place(0, 4), NONE);
        due("place(0, -1)", x.place(0, -1), NONE);
    }

    private static void likings() {
        ChangePlaces x = land(THREE);
        due("liking(0, 1)", x.liking(0, 1), 9);
        due("liking(0, 0)", x.liking(0, 0), 0);
        due("liking(0, 3)", x.liking(0, 3), -1000);
        due("liking(3, 0)", x.liking(3, 0), -1000);
        force(x, "bar 1=2;want 20 if to = 2;want 0 - 5 if to=0");
        due("liking(1, 2)", x.liking(1, 2), 20);
        due("liking(1, 0)", x.liking(1, 0), -5);
        due("liking(0, 1), none holds", x.liking(0, 1), 9);
        sum("1+2*3", 7);
        sum("2*3+1", 7);
        sum("10-3-2", 5);
        sum("100/7/2", 7);
        sum("2*7/4*3", 9);
        sum("7-2*3-4/2", -1);
        sum("0-7/2", -3);
        sum("9/0", 0);
        sum("5+7/0*3", 5);
        sum("1000", 999);
        sum("0-1000", -999);
        sum("99999*99999*99999*9999", -999);
        sum("00007", 7);
        sum("person", 0);
        sum("weight", 10);
        sum("home", 0);
        sum("at", 0);
        sum("to", 1);
        sum("wish", 9);
        sum("with", 99);
        sum("other", 0);
        sum("ring", 0);
        sum("owes", 0);
        sum("day", 1);
        sum("moved", 0);
        test("1<2", true);
        test("2<2", false);
        test("2<=2", true);
        test("3<=2", false);
        test("2=2", true);
        test("2=3", false);
        test("2>=2", true);
        test("1>=2", false);
        test("3>2", true);
        test("2>2", false);
        test("1=1 or 1=2 and 1=2", true);
        test("1=2 and 1=2 or 1=1", true);
        test("[1=1 or 1=2] and 1=2", false);
        test("not 1=2 and 1=1", true);
        test("not [1=2 or 1=1]", false);
        test("not not 1=1", true);
        bar("with = 1", true);
        bar("with = 0", false);
        bar("other = 6", true);
        bar("ring = 2", true);
        bar("to = 1 and at = 0 and wish = 9", true);
        bar("ring = 3", false);
        ChangePlaces y = land(THREE);
        ring(y, 0, 1);
        y.dawn();
        y.dawn();
        force(y, "want owes*100+day*10+moved");
        due("liking(0, 0)", y.liking(0, 0), 431);
        due("liking(2, 0)", y.liking(2, 0), 30);
        force(y, "want at*10+home");
        due("liking(0, 2)", y.liking(0, 2), 10);
    }

    private static void byHand() {
        ChangePlaces x = land("places 2" + ";person 0 1".repeat(8));
        due("call(8)", x.call(8), -2);
        due("call(-2)", x.call(-2), -2);
        for (int i = 0; i < 6; i++) {
            due("call", x.call(i), i + 1);
            due("call again", x.call(i), -2);
        }
        due("a seventh", x.call(6), -2);
        due("count(6)", x.count(6), 6);
        due("call(NONE)", x.call(NONE), 0);
        due("count(6)", x.count(6), 0);
        due("call(6)", x.call(6), 1);
        due("may of one", x.may(), NONE);
        due("go of one", x.go(), NONE);
        due("book of one", x.book(), NONE);
    }

    private static void laws() {
        ChangePlaces x = land(THREE + ";person 1 50");
        due("go", ring(x, 1, 3), -3);
        due("still CALLED", x.count(6), 2);
        due("may", x.may(), 1);
        due("of the first, then of the next one", ring(x, 3, 1), -3);
        due("of 0, then 2", ring(x, 0, 2), -4);
        // 0 would go to 1; 1 and 3 are at one PLACE: of 0 nothing is broken, of 1 LAW 1.
        due("go", ring(x, 0, 1, 3), -3);
        due("go", ring(x, 3, 0, 1), -4);
        force(x, "bar with = 2;bar person = 0 and ring = 3");
        due("go", ring(x, 0, 1, 2), -5);
        due("go", ring(x, 1, 2, 0), -5);
        due("count(11)", x.count(11), 0);
        x.force(NONE);
        x.call(NONE);
        x.call(1);
        x.call(2);
        x.call(0);
        due("may", x.may(), 0);
        promise = 14;
        due("go", x.go(), 4);
        due("count(6)", x.count(6), 0);
        due("count(11)", x.count(11), 1);
        due("count(9)", x.count(9), 4);
        due("owes(0, 1)", x.owes(0, 1), 4);
        due("person(0, 0)", x.person(0, 0), 1);
        due("person(1, 0)", x.person(1, 0), 2);
        due("person(2, 0)", x.person(2, 0), 0);
        due("person(3, 4)", x.person(3, 4), 0);
        due("person(2, 4)", x.person(2, 4), 1);
        ChangePlaces y = land("places 2;person 0 5;person 1 9;bench 0;bench 1;wish 0 0 9");
        due("the bench goes anywhere", ring(y, 0, 1), 4);
        due("owes(1, 0)", y.owes(1, 0), 4);
        due("owes(0, 1)", y.owes(0, 1), 0);
        ChangePlaces z = land("places 6;person 0 1;person 1 2;person 2 3;person 3 4;person 4 5;person 5 6");
        force(z, RESTLESS);
        due("a RING of six", ring(z, 5, 4, 3, 2, 1, 0), 5);
        due("person(5, 0)", z.person(5, 0), 4);
        due("person(0, 0)", z.person(0, 0), 5);
        due("owes(3, 2)", z.owes(3, 2), 1);
    }

    private static void undone() {
        ChangePlaces x = land("places 2;person 0 3;person 1 1");
        force(x, RESTLESS);
        for (int i = 1; i <= 21; i++) {
            x.dawn();
            due("go", ring(x, 0, 1), 2);
            due("count(8)", x.count(8), Math.min(i, 20));
        }
        due("owes", x.owes(0, 1), 42);
        x.pay(0, 1, 40);
        x.dawn();
        x.desire(0, 1, 4);
        x.call(1);
        due("undo", x.undo(), 19);
        due("owes as ahead of it", x.owes(0, 1), 40);
        due("person(0, 5)", x.person(0, 5), 40);
        due("DAY as ahead of it", x.count(5), 22);
        due("RINGS done", x.count(11), 20);
        due("moved", x.person(0, 4), 20);
        due("at", x.person(0, 0), 0);
        due("a wish stays", x.wish(0, 1), 4);
        due("CALLED stays", x.count(6), 1);
        for (int i = 18; i >= 0; i--) {
            due("undo", x.undo(), i);
        }
        due("undo, none can", x.undo(), NONE);
        due("count(11)", x.count(11), 1);
        due("count(5)", x.count(5), 3);
        due("at", x.person(0, 0), 1);
    }

    private static void coal() {
        ChangePlaces x = land(THREE);
        ring(x, 0, 1);
        promise = 16;
        due("owes(0, 1)", x.owes(0, 1), 4);
        due("owes(1, 0)", x.owes(1, 0), 0);
        due("owes(1, 1)", x.owes(1, 1), NONE);
        due("owes(0, 3)", x.owes(0, 3), NONE);
        due("owes(-1, 0)", x.owes(-1, 0), NONE);
        promise = 17;
        due("pay 0", x.pay(0, 1, 0), NONE);
        due("pay -1", x.pay(0, 1, -1), NONE);
        due("pay 5", x.pay(0, 1, 5), NONE);
        due("pay 1", x.pay(0, 1, 1), 3);
        due("pay back", x.pay(1, 0, 1), NONE);
        due("pay oneself", x.pay(0, 0, 1), NONE);
        due("pay 3", x.pay(0, 1, 3), 0);
        due("pay more", x.pay(0, 1, 1), NONE);
        due("count(9)", x.count(9), 0);
        due("person(1, 6)", x.person(1, 6), 0);
        ChangePlaces debtor = land(THREE);
        ring(debtor, 0, 1);
        force(debtor, "want owes");
        due("liking by owes", debtor.liking(0, 0), 4);
        debtor.pay(0, 1, 3);
        due("liking by owes, behind pay", debtor.liking(0, 0), 1);
        debtor.undo();
        due("liking by owes, undone", debtor.liking(0, 0), 0);
        promise = 18;
        // The heavier OWES the lighter alone: no ring of debts comes by RINGS.
        ring(x, 1, 2);
        due("strike", x.strike(), 0);
        due("count(9)", x.count(9), 2);
        struck();
        promise = 19;
        due("dawn", x.dawn(), 2);
        due("dawn", x.dawn(), 3);
        due("count(5)", x.count(5), 3);
        force(x, "want day");
        due("liking by day", x.liking(0, 0), 3);
        x.dawn();
        due("liking by day", x.liking(0, 0), 4);
        // So many days no run can have.
        set(inside(inside(x, "state"), "now"), "day", 9998);
        due("dawn", x.dawn(), 9999);
        due("dawn", x.dawn(), NONE);
        due("count(5)", x.count(5), 9999);
    }

    private static Object inside(Object object, String field) {
        try {
            java.lang.reflect.Field f = object.getClass().getDeclaredField(field);
            f.setAccessible(true);
            return f.get(object);
        } catch (ReflectiveOperationException e) {
            throw new IllegalStateException(e);
        }
    }

    private static void set(Object object, String field, int value) {
        try {
            java.lang.reflect.Field f = object.getClass().getDeclaredField(field);
            f.setAccessible(true);
            f.setInt(object, value);
        } catch (ReflectiveOperationException e) {
            throw new IllegalStateException(e);
        }
    }

    private static void lend(ChangePlaces x, int one, int other, int coal) {
        try {
            Object now = inside(inside(x, "state"), "now");
            java.lang.reflect.Method m = now.getClass().getDeclaredMethod("addDebt", int.class, int.class, int.class);
            m.setAccessible(true);
            m.invoke(now, one, other, coal);
        } catch (ReflectiveOperationException e) {
            throw new IllegalStateException(e);
        }
    }

    /** Debts that no RING makes, put in from behind. */
    private static void struck() {
        ChangePlaces x = land("places 2" + ";person 0 1".repeat(5));
        lend(x, 0, 1, 5);
        lend(x, 1, 2, 4);
        lend(x, 2, 0, 3);
        lend(x, 2, 3, 9);
        lend(x, 3, 1, 2);
        lend(x, 4, 3, 7);
        lend(x, 3, 4, 6);
        force(x, "want owes");
        // Two first: 3 4 by 6. Of three 0 1 2 ahead of 1 2 3, by 3; then 1 2 3 by 1.
        due("liking by owes", x.liking(2, 0), 12);
        due("strike", x.strike(), 12 + 9 + 3);
        due("owes(4, 3)", x.owes(4, 3), 1);
        due("owes(3, 4)", x.owes(3, 4), 0);
        due("owes(0, 1)", x.owes(0, 1), 2);
        due("owes(1, 2)", x.owes(1, 2), 0);
        due("owes(2, 0)", x.owes(2, 0), 0);
        due("owes(2, 3)", x.owes(2, 3), 8);
        due("owes(3, 1)", x.owes(3, 1), 1);
        due("person(2, 5)", x.person(2, 5), 8);
        due("person(3, 6)", x.person(3, 6), 9);
        due("count(9)", x.count(9), 12);
        due("liking by owes, behind strike", x.liking(2, 0), 8);
        due("strike", x.strike(), 0);
    }

    private static void books() {
        ChangePlaces x = land(THREE);
        due("judged(0)", x.judged(0), NONE);
        due("judged(1)", x.judged(1), 0);
        due("book", tell(x, 0, 1), 0);
        due("count(6)", x.count(6), 0);
        due("book", tell(x, 1, 2), 1);
        due("book", tell(x, 0, 2), 2);
        due("count(7)", x.count(7), 3);
        promise = 22;
        // (0 1): at 1 0 2; (1 2): at 1 2 0; (0 2): 0 would not go to 0.
        due("judged(0)", x.judged(0), 2);
        due("judged(1)", x.judged(1), 2);
        due("judged(2)", x.judged(2), -2);
        due("judged(-1)", x.judged(-1), -2);
        promise = 23;
        due("then(0)", x.then(0), 1);
        due("then(1)", x.then(1), 2);
        due("then(2)", x.then(2), 0);
        due("then(3)", x.then(3), NONE);
        due("nothing is done", x.person(0, 0), 0);
        promise = 21;
        due("burn", x.burn(), 3);
        due("burn", x.burn(), 0);
        tell(x, 0, 1);
        promise = 22;
        due("all can", x.judged(0), NONE);
        due("all can", x.judged(1), 0);
        promise = 23;
        due("then(0)", x.then(0), 1);
        due("then(2)", x.then(2), 2);
        promise = 20;
        for (int i = 1; i < 12; i++) {
            due("book", tell(x, 0, 2), i);
        }
        due("a thirteenth", tell(x, 0, 2), NONE);
        due("count(6)", x.count(6), 2);
        promise = 24;
        ChangePlaces y = land("places 2" + ";person 0 1".repeat(7));
        tell(y, 0, 1);
        tell(y, 2, 3);
        tell(y, 1, 2);
        tell(y, 4, 5);
        tell(y, 4, 0, 6);
        tell(y, 6, 5);
        int[] days = {1, 1, 2, 1, 2, 3};
        for (int i = 0; i < days.length; i++) {
            due("laidOut(" + i + ")", y.laidOut(i), days[i]);
        }
        due("laidOut(NONE)", y.laidOut(NONE), 3);
        due("laidOut(6)", y.laidOut(6), -2);
        due("laidOut(-2)", y.laidOut(-2), -2);
        // What is asked of moved and owes is as now, of at as then.
        ChangePlaces z = land("places 2;person 0 3;person 1 1");
        force(z, "want 9 if not to=at;want 0;bar moved > 0;bar owes > 0");
        tell(z, 0, 1);
        tell(z, 1, 0);
        due("judged(0)", z.judged(0), NONE);
    }

    private static void changing() {
        ChangePlaces x = land(THREE);
        due("changers(.., 2)", x.changers(-7, 2), 1);
        due("changers(0, 0)", x.changers(0, 0), 0);
        due("changers(0, 1)", x.changers(0, 1), 1);
        due("changers(1, 0)", x.changers(1, 0), NONE);
        due("changers(-1, 0)", x.changers(-1, 0), NONE);
        due("changers(0, 3)", x.changers(0, 3), NONE);
        due("changers(0, -1)", x.changers(0, -1), NONE);
        force(x, RESTLESS + ";bar person=1 and with=2");
        due("changers(.., 2)", x.changers(0, 2), 2);
        due("changers(1, 1)", x.changers(1, 1), 2);
        due("changers(1, 0)", x.changers(1, 0), 0);
        due("nobody", land("places 2").changers(0, 2), 0);
    }

    private static void mosts() {
        ChangePlaces x = land(THREE);
        due("most(2, 0)", x.most(2, 0), 12);
        due("most(2, 1)", x.most(2, 1), 2);
        due("most(3, 0)", x.most(3, 0), 21);
        due("most(3, 1)", x.most(3, 1), 3);
        due("most(4, 0)", x.most(4, 0), 21);
        due("most(1, 0)", x.most(1, 0), NONE);
        due("most(5, 0)", x.most(5, 0), NONE);
        due("most(2, 2)", x.most(2, 2), NONE);
        due("most(2, -1)", x.most(2, -1), NONE);
        due("most of nobody", land("places 2").most(2, 0), 0);
        promise = 27;
        int[][] takes = {{1, 0, 2}, {1, 2, 0}};
        for (int person = 0; person < 3; person++) {
            due("mostOf(2, " + person + ")", x.mostOf(2, person), takes[0][person]);
            due("mostOf(3, " + person + ")", x.mostOf(3, person), takes[1][person]);
        }
        due("mostOf(2, 3)", x.mostOf(2, 3), NONE);
        due("mostOf(1, 0)", x.mostOf(1, 0), NONE);
        due("mostOf(5, 0)", x.mostOf(5, 0), NONE);
        // By the bench nothing is gained: fewest change.
        ChangePlaces y = land("places 2;person 0 1;person 1 1;bench 0;bench 1");
        due("most", y.most(4, 1), 0);
        due("mostOf", y.mostOf(4, 0), 0);
        // 0 at 0, 1 and 2 at 1: both would go to 0 alike; 0 is in a RING, with the lesser one.
        ChangePlaces z = land("places 2;person 0 1;person 1 1;person 1 1;wish 0 1 4;wish 1 0 5;wish 2 0 5");
        due("mostOf(2, 0)", z.mostOf(2, 0), 1);
        due("mostOf(2, 2)", z.mostOf(2, 2), 2);
        // 0 and 1 at 0 alike, 2 at 1: the least stays, rather than is in a RING.
        z = land("places 2;person 0 1;person 0 1;person 1 1;wish 0 1 4;wish 1 1 4;wish 2 0 5");
        due("mostOf(2, 0)", z.mostOf(2, 0), 0);
        due("mostOf(2, 1)", z.mostOf(2, 1), 2);
        due("mostOf(2, 2)", z.mostOf(2, 2), 1);
        // Three restless at three PLACES: by a RING of 3 more is gained than by one of 2; the first row.
        z = land("places 3;person 0 1;person 1 1;person 2 1");
        force(z, RESTLESS);
        due("most(3, 0)", z.most(3, 0), 27);
        due("mostOf(3, 0)", z.mostOf(3, 0), 1);
        due("mostOf(3, 1)", z.mostOf(3, 1), 2);
        due("most(2, 0)", z.most(2, 0), 18);
        due("mostOf(2, 0): the least stays", z.mostOf(2, 0), 0);
        force(z, RESTLESS + ";bar ring = 3");
        due("most(3, 0)", z.most(3, 0), 18);
        // Four: twos gain as much as a RING of four, and the shorter row is ahead.
        z = land("places 4;person 0 1;person 1 1;person 2 1;person 3 1");
        force(z, RESTLESS);
        due("mostOf(4, 1)", z.mostOf(4, 1), 0);
        due("mostOf(4, 2)", z.mostOf(4, 2), 3);
        force(z, RESTLESS + ";bar ring = 2");
        due("mostOf(4, 1)", z.mostOf(4, 1), 2);
        due("mostOf(4, 3)", z.mostOf(4, 3), 0);
    }

    private static void cores() {
        ChangePlaces x = land(THREE);
        int[] takes = {1, 2, 0};
        for (int person = 0; person < 3; person++) {
            due("core(" + person + ")", x.core(person), takes[person]);
        }
        due("core(3)", x.core(3), NONE);
        due("core(-1)", x.core(-1), NONE);
        // 0 at 0 would most to 2, where 1 and 2 are; of these only 2 would to 0; 1 stays by itself.
        ChangePlaces y = land("places 3;person 0 1;person 2 1;person 2 1;person 1 1;"
                + "wish 0 2 9;wish 0 1 5;wish 2 0 4;wish 3 0 1;wish 3 2 1");
        // Round 1: 0 at 1 (the least there), 1 at itself, 2 at 0, 3 at 0 (PLACE 0 and 2 alike).
        // Round 2: 0 at 2, 2 at 0. Round 3: 3 alone.
        int[] then = {2, 1, 0, 3};
        for (int person = 0; person < 4; person++) {
            due("core(" + person + ")", y.core(person), then[person]);
        }
        force(y, "bar 1=1");
        due("LAW 3 is not asked", y.core(0), 2);
        ChangePlaces z = land("places 2;person 0 1;person 1 1;bench 0;bench 1");
        due("the bench is not asked", z.core(0), 0);
        promise = 29;
        due("blocks(0)", x.blocks(0), 0);
        due("blocks(2)", x.blocks(2), 1);
        due("blocks(3)", x.blocks(3), 0);
        due("blocks(1)", x.blocks(1), NONE);
        due("blocks(5)", x.blocks(5), NONE);
        due("blocks(-1)", x.blocks(-1), NONE);
        // By RESTLESS all LIKE what is not their PLACE now alike: who changed would not change again.
        ChangePlaces r = land("places 2;person 0 1;person 1 1");
        force(r, RESTLESS);
        due("blocks(2) by at as now", r.blocks(2), 0);
        force(r, RESTLESS + ";bar 1=1");
        due("blocks(2) if none may", r.blocks(2), 1);
    }

    private static void journeys() {
        ChangePlaces x = land(THREE);
        due("journey(0, 0)", x.journey(0, 0), 0);
        due("journey(0, 1)", x.journey(0, 1), 1);
        due("journey(1, 2)", x.journey(1, 2), 2);
        due("journey(2, 1)", x.journey(2, 1), -2);
        due("journey(3, 1)", x.journey(3, 1), NONE);
        due("journey(0, 3)", x.journey(0, 3), NONE);
        promise = 31;
        int[] row = {0, 1, 1, 2};
        for (int i = 0; i < 4; i++) {
            due("row(1, 2, " + i / 2 + ", " + i % 2 + ")", x.row(1, 2, i / 2, i % 2), row[i]);
        }
        due("row(1, 2, 2, 0)", x.row(1, 2, 2, 0), -2);
        due("row(0, 0, 0, 0)", x.row(0, 0, 0, 0), -2);
        due("row(2, 1, 0, 0)", x.row(2, 1, 0, 0), -2);
        due("row(1, 2, -1, 0)", x.row(1, 2, -1, 0), NONE);
        due("row(1, 2, 0, 2)", x.row(1, 2, 0, 2), NONE);
        due("row(1, 2, 0, -1)", x.row(1, 2, 0, -1), NONE);
        due("row(3, 2, 0, 0)", x.row(3, 2, 0, 0), NONE);
        due("row(0, 3, 0, 0)", x.row(0, 3, 0, 0), NONE);
        promise = 32;
        due("reached(NONE)", x.reached(NONE), 3);
        due("reached(0)", x.reached(0), 3);
        due("reached(1)", x.reached(1), 7);
        due("reached(2)", x.reached(2), 5);
        due("reached(3)", x.reached(3), -2);
        due("reached(-2)", x.reached(-2), -2);
        due("nobody", land("places 2").reached(NONE), 1);
        // Seven restless at seven PLACES: 5040 SITUATIONS; six: 720.
        ChangePlaces seven = land("places 8;person 0 1;person 1 1;person 2 1;person 3 1;"
                + "person 4 1;person 5 1;person 6 1");
        force(seven, RESTLESS);
        due("reached(NONE)", seven.reached(NONE), -3);
        due("reached(0)", seven.reached(0), -3);
        promise = 30;
        due("journey(0, 6)", seven.journey(0, 6), 1);
        due("journey(0, 7)", seven.journey(0, 7), -3);
        due("row(0, 7, 0, 0)", seven.row(0, 7, 0, 0), -3);
        ChangePlaces six = land("places 8;person 0 1;person 1 1;person 2 1;person 3 1;person 4 1;person 5 1");
        force(six, RESTLESS);
        due("reached(NONE)", six.reached(NONE), 720);
        due("journey(0, 7)", six.journey(0, 7), -2);
        // 2000 SITUATIONS, and no more.
        ChangePlaces brim = land("places 4;person 2 6;person 3 1;person 1 2;person 1 8;person 0 5;person 3 8;"
                + "person 2 5;person 2 4;person 3 9;person 1 9");
        force(brim, "want 9 if not to=at;want 0;bar person=3 and to=2;bar person<3 and to>1");
        promise = 32;
        due("reached(NONE)", brim.reached(NONE), 2000);
        due("reached(3)", brim.reached(3), 11);
        promise = 30;
        due("journey(3, 2)", brim.journey(3, 2), -2);
        promise = 34;
        brim.found(3, 2);
        due("done(0)", brim.done(0), -2);
    }

    private static void founds() {
        ChangePlaces x = land(THREE);
        due("done(0), none FOUND", x.done(0), 0);
        due("done(1)", x.done(1), 1);
        due("done(2)", x.done(2), 1);
        promise = 33;
        due("found(1, 2)", x.found(1, 2), true);
        due("found(1, 3)", x.found(1, 3), false);
        due("found(3, 0)", x.found(3, 0), false);
        due("found(1, -2)", x.found(1, -2), false);
        due("count(10)", x.count(10), 1);
        promise = 34;
        due("done(0)", x.done(0), 2);
        due("done(1)", x.done(1), 1);
        due("done(2)", x.done(2), 1);
        due("done(3)", x.done(3), NONE);
        due("done(-1)", x.done(-1), NONE);
        ring(x, 0, 1);
        due("from HOME", x.done(0), 2);
        x.found(2, 1);
        due("never", x.done(0), -2);
        due("never", x.done(1), -2);
        promise = 33;
        due("found(2, NONE)", x.found(2, NONE), true);
        due("count(10)", x.count(10), 1);
        promise = 34;
        due("done(0)", x.done(0), 2);
        // 0 1 2 at HOME to 1 2 0: by (0 1)(0 2) .. three ways of two RINGS.
        ChangePlaces y = land("places 3;person 0 1;person 1 1;person 2 1");
        force(y, RESTLESS);
        y.found(0, 1);
        y.found(1, 2);
        due("done(0)", y.done(0), 2);
        due("done(1)", y.done(1), 1);
        due("done(2)", y.done(2), 0);
        y.found(1, NONE);
        // 0 at 1 behind one RING: with 1 alone.
        due("done(0)", y.done(0), 1);
        due("done(1)", y.done(1), 1);
        due("done(2)", y.done(2), 1);
        ChangePlaces seven = land("places 8;person 0 1;person 1 1;person 2 1;person 3 1;"
                + "person 4 1;person 5 1;person 6 1");
        force(seven, RESTLESS);
        seven.found(0, 1);
        due("done(0)", seven.done(0), 1);
        // With 3 RINGS there are 1 + 21 + 175 + 735 SITUATIONS, with 4 there are 2556.
        seven.found(1, 0);
        seven.found(2, 3);
        seven.found(3, 2);
        seven.found(4, 5);
        due("done(0)", seven.done(0), 3);
        due("done(1)", seven.done(1), 1);
        due("done(2)", seven.done(2), 0);
        seven.found(4, 6);
        seven.found(5, 4);
        due("done(0), more than 2000 by then", seven.done(0), -3);
        due("done(2)", seven.done(2), -3);
        // 2000 SITUATIONS by then, and 2001.
        ChangePlaces edge = land("places 6;person 1 1;person 5 1;person 4 1;person 4 1;person 2 1;person 0 1;"
                + "person 3 1;person 0 1;person 3 1;bench 8;bench 0;bench 1;bench 7;bench 6;bench 4;"
                + "wish 5 4 8;wish 3 0 1;wish 2 2 2");
        edge.found(0, 4);
        edge.found(8, 5);
        edge.found(4, 0);
        edge.found(3, 0);
        due("done(0)", edge.done(0), 5);
        edge = land("places 8;person 6 1;person 3 1;person 6 1;person 5 1;person 2 1;person 4 1;person 1 1;"
                + "person 1 1;person 2 1;bench 7;bench 8;bench 5;bench 6;bench 4;wish 7 6 9;wish 1 2 2;"
                + "wish 6 1 8;wish 7 3 6;wish 1 0 1;wish 0 4 1;wish 1 1 6;wish 3 6 2;wish 1 3 3;wish 0 2 8;"
                + "wish 7 5 8;wish 2 2 8;wish 2 1 8;wish 6 0 2");
        edge.found(4, 4);
        edge.found(5, 5);
        edge.found(8, 3);
        due("done(0)", edge.done(0), -3);
    }

    private static void doctors() {
        ChangePlaces x = land(THREE);
        due("doctors(NONE)", x.doctors(NONE), 1);
        due("doctors(0)", x.doctors(0), 0);
        due("doctors(1)", x.doctors(1), 1);
        due("doctors(2)", x.doctors(2), 3);
        due("doctors(3)", x.doctors(3), 7);
        due("doctors(8)", x.doctors(8), 7);
        due("doctors(9)", x.doctors(9), -2);
        due("doctors(-2)", x.doctors(-2), -2);
        promise = 36;
        due("served(0)", x.served(0), 0);
        due("served(1)", x.served(1), 2);
        due("served(2)", x.served(2), 1);
        due("served(4)", x.served(4), 2);
        due("served(8)", x.served(8), NONE);
        due("served(-1)", x.served(-1), NONE);
        promise = 35;
        ChangePlaces y = land("places 4;call 3;call 3;call 1;person 1 1;person 0 1;bench 1");
        due("doctors(NONE)", y.doctors(NONE), 10);
        due("doctors(1)", y.doctors(1), 8);
        due("no calls", land("places 4;person 1 1").doctors(NONE), 0);
        due("no calls", land("places 4;person 1 1").doctors(2), 3);
        ChangePlaces z = land("places 4;call 3;call 1;person 1 1;bench 0");
        due("the bench goes anywhere", z.doctors(NONE), 8);
        due("served(1)", z.served(1), 1);
    }

    private static void lies() {
        ChangePlaces x = land("places 2;person 0 1;person 1 1;person 1 1;wish 0 1 5;wish 1 0 3;wish 2 0 9");
        // Under MOST 0 changes with 2; if 1 says 999, with 1. In the CORE 0 points at 1, the least there.
        due("liars(0)", x.liars(0), 2);
        due("liars(1)", x.liars(1), 0);
        due("liars(2)", x.liars(2), NONE);
        due("liars(-1)", x.liars(-1), NONE);
        promise = 38;
        due("lie(0, 0)", x.lie(0, 0), -2);
        due("lie(0, 1)", x.lie(0, 1), 0);
        due("lie(0, 2)", x.lie(0, 2), -2);
        due("lie(1, 1)", x.lie(1, 1), -2);
        due("lie(0, 3)", x.lie(0, 3), NONE);
        due("lie(2, 0)", x.lie(2, 0), NONE);
        due("lie(-1, 0)", x.lie(-1, 0), NONE);
        promise = 26;
        due("most behind lies", x.most(2, 0), 14);
    }

    private static void years() {
        // From x = 0 the DRAWS are 0 21468 9988 22117 3498 16927 16045 19741 12122 8410 12261 27052.
        ChangePlaces x = land(THREE);
        due("years(1, 2, 0)", x.years(1, 2, 0), 0);
        due("years(1, 3, 0)", x.years(1, 3, 0), 1);
        due("years(1, 3, 1)", x.years(1, 3, 1), 4);
        due("years(1, 3, 2)", x.years(1, 3, 2), 1);
        due("years(1, 5, 0)", x.years(1, 5, 0), 2);
        due("years(1, 5, 1)", x.years(1, 5, 1), 6);
        due("years(1, 5, 2)", x.years(1, 5, 2), 3);
        due("years(2, 3, 0)", x.years(2, 3, 0), 2);
        due("years(2, 3, 1)", x.years(2, 3, 1), 8);
        due("years(2, 3, 2)", x.years(2, 3, 2), 2);
        due("x as it was", x.count(12), 0);
        due("nothing stays", x.count(9), 0);
        due("nothing stays", x.person(0, 0), 0);
        due("years(0, 1, 0)", x.years(0, 1, 0), NONE);
        due("years(21, 1, 0)", x.years(21, 1, 0), NONE);
        due("years(1, 0, 0)", x.years(1, 0, 0), NONE);
        due("years(1, 201, 0)", x.years(1, 201, 0), NONE);
        due("years(1, 1, 3)", x.years(1, 1, 3), NONE);
        due("years(1, 1, -1)", x.years(1, 1, -1), NONE);
        due("nobody", land("places 2").years(1, 1, 0), NONE);
        // Two who change as long as neither changed thrice: by moved, which grows.
        ChangePlaces y = land("places 2;person 0 3;person 1 1");
        force(y, RESTLESS + ";bar moved >= 3");
        due("years(20, 200, 0)", y.years(20, 200, 0), 60);
        due("years(20, 200, 1)", y.years(20, 200, 1), 120);
        force(y, RESTLESS + ";bar owes > 3");
        due("years(20, 200, 0)", y.years(20, 200, 0), 40);
        due("liking behind years", y.liking(0, 1), 9);
        due("changers behind years", y.changers(0, 2), 1);
        promise = 39;
        due("seed(12345)", x.seed(12345), 0);
        // The DRAWS but the first: (21468 9988) (22117 3498) (16927 16045) (19741 12122) mod 3: (0 1) (1 0) ..
        due("years(1, 1, 0)", x.years(1, 1, 0), 1);
        due("seed", x.seed(0), 12345);
    }

    private static void counts() {
        ChangePlaces x = land(THREE);
        force(x, "want wish");
        ring(x, 0, 1);
        x.dawn();
        tell(x, 0, 1);
        tell(x, 0, 2);
        x.call(1);
        x.found(0, 0);
        x.found(1, 0);
        x.seed(9);
        x.feed(1, 2, 3, 4, 5);
        int[] want = {3, 3, 2, 1, 0, 2, 1, 2, 1, 4, 2, 1, 9, 20};
        for (int what = 0; what < want.length; what++) {
            due("count(" + what + ")", x.count(what), want[what]);
        }
        due("count(14)", x.count(14), NONE);
        due("count(-1)", x.count(-1), NONE);
    }

    private static void images() {
        ChangePlaces x = land(THREE);
        promise = 43;
        due("back(0), never made", x.back(0), NONE);
        due("back(-1)", x.back(-1), NONE);
        due("back(4)", x.back(4), NONE);
        promise = 42;
        due("image(-1)", x.image(-1), NONE);
        due("image(4)", x.image(4), NONE);
        due("image(3)", x.image(3), 0);
        x.seed(77);
        ring(x, 0, 1);
        tell(x, 0, 1);
        x.found(2, 0);
        x.dawn();
        x.call(2);
        x.desire(2, 1, 50);
        due("image(0)", x.image(0), 1);
        int rule = force(x, RESTLESS);
        say(x, "places 2");
        promise = 43;
        due("back(3)", x.back(3), 0);
        due("TAPE stays", x.count(13), 8);
        due("RULES stay", x.count(3), 1);
        due("none IN FORCE", x.count(4), NONE);
        due("x", x.count(12), 0);
        due("at", x.person(0, 0), 0);
        due("wish", x.wish(2, 1), 0);
        due("undo", x.undo(), NONE);
        due("changers", x.changers(0, 2), 1);
        x.force(rule);
        x.image(2);
        due("country", x.country(), 0);
        due("back(0)", x.back(0), 1);
        int[] want = {3, 3, 2, 1, NONE, 2, 1, 1, 1, 4, 1, 1, 77, 0};
        for (int what = 0; what < want.length; what++) {
            due("count(" + what + ")", x.count(what), want[what]);
        }
        due("wish", x.wish(2, 1), 50);
        due("undo", x.undo(), 0);
        due("at", x.person(0, 0), 0);
        due("back(0) again", x.back(0), 1);
        due("at", x.person(0, 0), 1);
        due("back(2)", x.back(2), 0);
        due("the RULE IN FORCE, too", x.count(4), rule);
        due("changers", x.changers(0, 2), 3);
        ChangePlaces y = new ChangePlaces();
        due("image without a COUNTRY", y.image(1), 0);
        say(y, THREE);
        y.country();
        due("back", y.back(1), 0);
        due("no COUNTRY", y.count(0), 0);
        due("no DAY", y.count(5), 0);
    }
}
