/** The edges of the texts: 'Terms' I, and promises 1 to 6. */
public final class TextEdgesTest extends Edges {
    public static void main(String[] args) {
        newObject();
        lifetime();
        tapeTakes400();
        tapeEnds();
        countryTakes400();
        clausesOfCountry();
        placesTold();
        placesOnceAndFirst();
        personsTold();
        tenPeople();
        wishesTold();
        benchTold();
        callsTold();
        inOrder();
        homes();
        blanks();
        signsThatCantStand();
        numbers();
        words();
        clausesOfRule();
        formOfRule();
        tests();
        sums();
        goesRound();
        wordsOfWant();
        wordsOfBar();
        depth();
        parts();
        faultNumbers();
        firstFault();
        leastFault();
        countryComes();
        countryRefused();
        countryAnew();
        ruleComes();
        ruleRefused();
        forced();
        finish();
    }

    private static int fault(int place, int kind) {
        return -2 - (1 + 8 * place + kind);
    }

    /** There is a COUNTRY already: it stays. */
    private static void badCountry(String text, int place, int kind) {
        ChangePlaces x = land("places 2;person 1 7");
        say(x, text);
        due("country of '" + text + "'", x.country(), fault(place, kind));
        due("WEIGHT behind the FAULT of '" + text + "'", x.person(0, 1), 7);
        due("PLACES behind the FAULT of '" + text + "'", x.count(0), 2);
        due("the TAPE behind the FAULT of '" + text + "'", x.count(13), 0);
    }

    private static ChangePlaces goodCountry(String text, int people) {
        ChangePlaces x = new ChangePlaces();
        say(x, text);
        due("country of '" + text + "'", x.country(), people);
        due("PEOPLE of '" + text + "'", x.count(1), people);
        due("the TAPE behind '" + text + "'", x.count(13), 0);
        return x;
    }

    private static void badRule(String text, int place, int kind) {
        ChangePlaces x = new ChangePlaces();
        say(x, text);
        due("rule of '" + text + "'", x.rule(), fault(place, kind));
        due("RULES behind the FAULT of '" + text + "'", x.count(3), 0);
        due("the TAPE behind the FAULT of '" + text + "'", x.count(13), 0);
    }

    private static void goodRule(String text) {
        ChangePlaces x = new ChangePlaces();
        say(x, text);
        due("rule of '" + text + "'", x.rule(), 0);
        due("RULES behind '" + text + "'", x.count(3), 1);
        due("the TAPE behind '" + text + "'", x.count(13), 0);
    }

    private static final String TWO = "places 3;person 0 10;person 2 99;wish 0 1 7";

    /** What a want comes to for PERSON 0 as to PLACE 1. */
    private static void comesTo(String sum, int want) {
        due("want " + sum, land(TWO, "want " + sum).liking(0, 1), want);
    }

    private static void holds(String test, boolean want) {
        due("if " + test, land(TWO, "want 1 if " + test + ";want 0").liking(0, 1), want ? 1 : 0);
    }

    // ---- promise 1

    private static void newObject() {
        sentence("A new object: No COUNTRY, no RULES, none IN FORCE.");
        ChangePlaces x = new ChangePlaces();
        for (int what = 0; what < 14; what++) {
            due("count(" + what + ")", x.count(what), what == 4 ? NONE : 0);
        }
        due("dawn, no COUNTRY", x.dawn(), NONE);
        due("person, no COUNTRY", x.person(0, 0), NONE);
        due("place, no COUNTRY", x.place(0, 0), NONE);
        due("force, no RULES", x.force(0), -2);
        due("force, none IN FORCE", x.force(NONE), NONE);
        due("two objects know nothing of one another", land("places 2").count(0) + new ChangePlaces().count(0), 2);
    }

    private static void lifetime() {
        sentence("An object is used for at most 512 calls after it has been made");
        ChangePlaces x = land("places 2;person 0 1");
        // say and country were five calls at most.
        for (int i = 0; i < 505; i++) {
            x.dawn();
        }
        due("one of the last calls", x.dawn(), 507);
        due("the last call", x.count(5), 507);
    }

    // ---- promises 2 and 3

    private static void tapeTakes400() {
        sentence("feed: Twenty bytes come behind the TAPE: how many it has");
        ChangePlaces x = new ChangePlaces();
        for (int i = 1; i <= 20; i++) {
            due("feed " + i, x.feed(FAR_BELOW, -1, 0, 1, FAR_ABOVE), 20 * i);
        }
        due("count(13)", x.count(13), 400);
        sentence("feed: NONE, and none comes, if it would have more than 400");
        due("feed at 400", x.feed(0, 0, 0, 0, 0), NONE);
        due("count(13)", x.count(13), 400);
        for (int length = 399; length > 380; length--) {
            due("end", x.end(length), length);
            due("feed at " + length, x.feed(0, 0, 0, 0, 0), NONE);
            due("count(13)", x.count(13), length);
        }
        due("end", x.end(380), 380);
        due("feed at 380", x.feed(0, 0, 0, 0, 0), 400);
        Make brim = () -> {
            ChangePlaces y = midst();
            say(y, "want to+1" + " ".repeat(372));
            return y;
        };
        stays("feed at 381", brim, y -> y.feed(1, 2, 3, 4, 5), NONE);
        sentence("feed: of each number the highest first");
        // "plac" "es 3" ";per" "son " "2 77", then "    " five times.
        x = new ChangePlaces();
        x.feed(0x706c6163, 0x65732033, 0x3b706572, 0x736f6e20, 0x32203737);
        x.feed(0x20202020, 0x20202020, 0x20202020, 0x20202020, 0x20202020);
        due("country", x.country(), 1);
        due("PLACE of the byte before the last three", x.person(0, 0), 2);
        due("WEIGHT of the last bytes", x.person(0, 1), 77);
        sentence("feed: a byte is none but 0 to 255");
        x.feed(0x706c6163, 0x65732032, 0x3bffffff, -1, -1);
        due("255 behind ;", x.country(), fault(9, 0));
        x.feed(0x706c6163, 0x65732032, 0x20808080, FAR_BELOW, 0);
        due("128 behind a blank", x.country(), fault(9, 0));
    }

    private static void tapeEnds() {
        sentence("end: The TAPE has its first n bytes alone: n");
        ChangePlaces x = new ChangePlaces();
        due("end(0) of nothing", x.end(0), 0);
        say(x, "places 2;person 1 34;call 0");
        due("end at its end", x.end(27), 27);
        due("count(13)", x.count(13), 27);
        due("end within a NUMBER", x.end(19), 19);
        due("count(13)", x.count(13), 19);
        due("feed comes behind these", x.feed(0x353b6361, 0x6c6c2031, 0x20202020, 0x20202020, 0x20202020), 39);
        due("country", x.country(), 1);
        due("35 of 3 and 5", x.person(0, 1), 35);
        due("call 1, not call 0", x.place(1, 3), 1);
        say(x, "places 2");
        due("end(0)", x.end(0), 0);
        due("the bytes are gone", x.country(), fault(0, 0));
        sentence("end: NONE, and nothing happens, if it has not so many, or n is below 0");
        due("end(1) of nothing", new ChangePlaces().end(1), NONE);
        int length = midst().count(13);
        for (int n : new int[] {length + 1, 400, 401, FAR_ABOVE, -1, -2, FAR_BELOW}) {
            stays("end(" + n + ")", Edges::midst, y -> y.end(n), NONE);
        }
        changes("end(one less)", Edges::midst, y -> y.end(length - 1), length - 1);
    }

    // ---- the COUNTRY

    private static void countryTakes400() {
        sentence("A COUNTRY is a text of at most 400 bytes");
        String blanks = " ".repeat(385);
        due("the 400th byte counts", goodCountry("places 2;" + blanks + "call 1", 0).place(1, 3), 1);
        badCountry("places 2;" + blanks + "call 2", 399, 1);
        badCountry("places 2;" + blanks + "call ;", 399, 0);
        badCountry("places 2;" + blanks + "call  ", 400, 0);
        badCountry(";".repeat(400), 0, 0);
        badCountry("places 2" + ";".repeat(392), 9, 0);
        sentence("RULES 0 to 5: texts likewise");
        due("the 400th byte counts", land(TWO, "want " + " ".repeat(394) + "8").liking(0, 1), 8);
        badRule("want" + " ".repeat(395) + "x", 399, 0);
        badRule("want" + " ".repeat(396), 400, 0);
        badRule("want" + " ".repeat(395) + "<", 399, 0);
        badRule("bar 1" + " ".repeat(394) + ">", 400, 0);
    }

    private static void clausesOfCountry() {
        sentence("CLAUSE { ; CLAUSE }, 48 at most");
        badCountry("", 0, 0);
        badCountry(" ", 1, 0);
        goodCountry("places 2", 0);
        badCountry("places 2;", 9, 0);
        badCountry("places 2; ", 10, 0);
        badCountry(";places 2", 0, 0);
        badCountry("places 2;;call 0", 9, 0);
        badCountry("places 2 call 0", 9, 0);
        badCountry("places 2,call 0", 8, 0);
        String full = "places 2;person 0 1" + ";bench0".repeat(46);
        due("the 48th counts", goodCountry(full.substring(0, full.length() - 7) + ";call 1", 1).count(2), 1);
        goodCountry(full, 1);
        goodCountry(full + " ", 1);
        sentence("one CLAUSE too many (at its first byte)");
        badCountry(full + ";bench0", full.length() + 1, 4);
        badCountry(full + " ; bench0", full.length() + 3, 4);
        badCountry(full + ";person 0 1", full.length() + 1, 4);
        badCountry(full + ";wish 0 0 1", full.length() + 1, 4);
        badCountry(full + ";call 9", full.length() + 1, 4);
        badCountry(full + ";places 2", full.length() + 1, 4);
    }

    private static void placesTold() {
        sentence("places NUMBER (2 to 8)");
        badCountry("places 0", 7, 1);
        badCountry("places 1", 7, 1);
        due("2", goodCountry("places 2", 0).count(0), 2);
        due("8", goodCountry("places 8", 0).count(0), 8);
        badCountry("places 9", 7, 1);
        badCountry("places 10", 7, 1);
        badCountry("places 99999", 7, 1);
        badCountry("places -2", 7, 0);
        badCountry("places", 6, 0);
        badCountry("places;", 6, 0);
        badCountry("places two", 7, 0);
        badCountry("places 2 2", 9, 0);
    }

    private static void placesOnceAndFirst() {
        sentence("a second places, another CLAUSE ahead of it (at its first byte)");
        badCountry("places 2;places 2", 9, 4);
        badCountry("places 2;person 0 1; places 3", 21, 4);
        badCountry("person 0 1;places 2", 0, 4);
        badCountry("  wish 0 0 1;places 2", 2, 4);
        badCountry("bench 0", 0, 4);
        badCountry("call 0", 0, 4);
    }

    private static void personsTold() {
        sentence("person NUMBER NUMBER (a PLACE, WEIGHT 1 to 99)");
        ChangePlaces x = goodCountry("places 2;person 0 1;person 1 99", 2);
        due("the least PLACE", x.person(0, 0), 0);
        due("the least WEIGHT", x.person(0, 1), 1);
        due("the greatest PLACE", x.person(1, 0), 1);
        due("the greatest WEIGHT", x.person(1, 1), 99);
        due("the greatest PLACE of 8", goodCountry("places 8;person 7 5", 1).person(0, 0), 7);
        badCountry("places 2;person 2 1", 16, 1);
        badCountry("places 8;person 8 1", 16, 1);
        badCountry("places 2;person 0 0", 18, 1);
        badCountry("places 2;person 0 100", 18, 1);
        badCountry("places 2;person 0", 17, 0);
        badCountry("places 2;person 0;call 0", 17, 0);
        badCountry("places 2;person", 15, 0);
        badCountry("places 2;person 0 1 1", 20, 0);
    }

    private static void tenPeople() {
        sentence("an 11th PERSON (at its first byte)");
        String ten = "places 2" + ";person 0 1".repeat(10);
        goodCountry(ten, 10);
        goodCountry(ten + ";wish 9 1 1", 10);
        badCountry(ten + ";person 0 1", ten.length() + 1, 4);
        badCountry(ten + "; person", ten.length() + 2, 4);
        badCountry(ten + ";call 0;person 9 0", ten.length() + 8, 4);
    }

    private static void wishesTold() {
        sentence("wish NUMBER NUMBER NUMBER (a PERSON that was told, a PLACE, WORTH 1 to 99)");
        ChangePlaces x = goodCountry("places 8;person 0 1;wish 0 0 1;wish 0 7 99", 1);
        due("the least PLACE and WORTH", x.wish(0, 0), 1);
        due("the greatest PLACE and WORTH", x.wish(0, 7), 99);
        due("nothing told", x.wish(0, 3), 0);
        due("the greatest PERSON", goodCountry(people(10, ";wish 9 3 4"), 10).wish(9, 3), 4);
        badCountry("places 2;wish 0 0 1", 14, 1);
        badCountry("places 2;person 0 1;wish 1 0 1", 25, 1);
        badCountry("places 2;person 0 1;wish 1 0 1;person 0 1", 25, 1);
        badCountry("places 2;person 0 1;wish 0 2 1", 27, 1);
        badCountry("places 2;person 0 1;wish 0 1 0", 29, 1);
        badCountry("places 2;person 0 1;wish 0 1 100", 29, 1);
        badCountry("places 2;person 0 1;wish 0 1", 28, 0);
        badCountry("places 2;person 0 1;wish 0", 26, 0);
        badCountry("places 2;person 0 1;wish", 24, 0);
        badCountry("places 2;person 0 1;wish 0 1 1 1", 31, 0);
        sentence("wish: of the same two the last told");
        x = goodCountry("places 2;person 0 1;person 0 1;wish 0 1 9;wish 0 1 4;wish 1 1 3;wish 1 0 2;wish 1 1 8", 2);
        due("the lesser is the last", x.wish(0, 1), 4);
        due("the greater is the last", x.wish(1, 1), 8);
        due("another PLACE", x.wish(1, 0), 2);
    }

    private static void benchTold() {
        sentence("bench NUMBER (a PERSON that was told)");
        ChangePlaces x = goodCountry(people(10, ";bench 0;bench 9;bench 9"), 10);
        for (int person = 0; person < 10; person++) {
            due("bench of " + person, x.person(person, 3), person % 9 == 0 ? 1 : 0);
        }
        badCountry("places 2;bench 0", 15, 1);
        badCountry("places 2;person 0 1;bench 1", 26, 1);
        badCountry("places 2;person 0 1;bench 1;person 0 1", 26, 1);
        badCountry(people(10, ";bench 10"), people(10, "").length() + 7, 1);
        badCountry("places 2;person 0 1;bench", 25, 0);
        badCountry("places 2;person 0 1;bench 0 0", 28, 0);
        sentence("bench: who goes anywhere");
        x = land("places 2;person 0 1;person 1 1;wish 0 0 99;wish 1 1 99;bench 0;bench 1");
        due("from what is LIKED most to what is not", ring(x, 0, 1), 0);
    }

    private static void callsTold() {
        sentence("call NUMBER (a PLACE at which a doctor may be called)");
        ChangePlaces x = goodCountry("places 8;call 0;call 7;call 7", 0);
        due("the least PLACE", x.place(0, 3), 1);
        due("the greatest PLACE", x.place(7, 3), 2);
        due("none there", x.place(3, 3), 0);
        badCountry("places 2;call 2", 14, 1);
        badCountry("places 8;call 8", 14, 1);
        badCountry("places 2;call", 13, 0);
        badCountry("places 2;call 0 0", 16, 0);
        sentence("a ninth call (at its first byte)");
        String eight = "places 2" + ";call 1".repeat(8);
        x = goodCountry(eight, 0);
        due("eight calls", x.count(2), 8);
        due("all at one PLACE", x.place(1, 3), 8);
        badCountry(eight + ";call 1", eight.length() + 1, 4);
        badCountry(eight + "; call", eight.length() + 2, 4);
        badCountry(eight + ";person 0 1;call 0", eight.length() + 12, 4);
    }

    private static void inOrder() {
        sentence("PLACES 0 and on, PEOPLE 0 to 9, in the order told");
        ChangePlaces x = goodCountry(people(10, ""), 10);
        for (int person = 0; person < 10; person++) {
            due("WEIGHT of " + person, x.person(person, 1), person + 1);
            due("PLACE of " + person, x.person(person, 0), person % 8);
        }
        due("no PERSON -1", x.person(-1, 1), NONE);
        due("no PERSON 10", x.person(10, 1), NONE);
        due("PLACE 0", x.place(0, 0), 1 | 1 << 8);
        due("PLACE 7", x.place(7, 0), 1 << 7);
        due("no PLACE -1", x.place(-1, 0), NONE);
        due("no PLACE 8", x.place(8, 0), NONE);
        due("no PLACE 2 of 2", land("places 2").place(2, 0), NONE);
    }

    private static void homes() {
        sentence("The first PLACE of each PERSON is their HOME; it is DAY 1.");
        ChangePlaces x = land("places 3;person 2 1;person 0 1", RESTLESS);
        due("HOME", x.person(0, 2), 2);
        due("where they are", x.person(0, 0), 2);
        due("HOME", x.person(1, 2), 0);
        due("DAY", x.count(5), 1);
        due("go", ring(x, 0, 1), 0);
        due("where they are then", x.person(0, 0), 0);
        due("HOME stays", x.person(0, 2), 2);
        due("DAY of a COUNTRY without PEOPLE", land("places 2").count(5), 1);
    }

    private static void blanks() {
        sentence("Blanks (32) stand between as one likes");
        due("many", goodCountry("   places   2   ;   person   1   5   ;   wish   0   0   9   ", 1).wish(0, 0), 9);
        due("none", goodCountry("places2;person1 5;wish0 0 9;bench0;call1", 1).wish(0, 0), 9);
        goodRule("  bar  not  [  1  +  1  <  2  or  day  >=  3  ]  ;  want  1  if  1  <=  1  ");
        goodRule("bar[not1+1<2or day>=3]and[1=1]or not[1<=1];want1if 1<=1;want day*2if not[to=1]");
        badCountry("places 2;person 1 5 ;wish 0 01", 30, 0);
        badCountry("place s 2", 0, 0);
        badRule("bar 1 < = 2", 8, 0);
        badRule("bar 1 > = 2", 8, 0);
        badRule("want 1 2", 7, 0);
        for (int sign : new int[] {0, 9, 10, 13, 31, 33, 160}) {
            badCountry("places 2" + (char) sign, 8, 0);
            badCountry("places" + (char) sign + "2", 6, 0);
            badRule("want 1" + (char) sign, 6, 0);
        }
    }

    private static void signsThatCantStand() {
        sentence("0 a byte or WORD that can't stand there, or the end (behind the last byte)");
        // The bytes beside digits and letters, and the greatest.
        for (int sign : new int[] {'/', ':', '`', '{', '@', 'A', 'P', 'Z', 127, 128, 225, 255}) {
            badCountry((char) sign + "places 2", 0, 0);
            badCountry("places" + (char) sign + " 2", 6, 0);
            badCountry("places 2" + (char) sign, 8, 0);
            badRule((char) sign + "want 1", 0, 0);
            badRule("want " + (char) sign, 5, 0);
            badRule("want 1 + " + (char) sign + "1", 9, 0);
        }
        badCountry("place 2", 0, 0);
        badCountry("placess 2", 0, 0);
        badCountry("placesperson 2", 0, 0);
        badCountry("places 2;perso 0 1", 9, 0);
        badCountry("places 2;persons 0 1", 9, 0);
        badCountry("places 2;weight 0", 9, 0);
        badCountry("places 2;bar 1=1", 9, 0);
        badCountry("places 2 ;want 1", 10, 0);
        badCountry("2", 0, 0);
        badCountry("places 2;3", 9, 0);
        badCountry("places 2;[", 9, 0);
        badCountry("places 2<", 8, 0);
        badCountry("places 2<=", 8, 0);
        badRule("places 2", 0, 0);
        badRule("bar 1", 5, 0);
        badRule("bar 1 +", 7, 0);
        badRule("bar 1 = ", 8, 0);
        badRule("bar 1 = 1 = 1", 10, 0);
        badRule("bar 1 = 1 and", 13, 0);
        badRule("bar 1 = 1 or or 1 = 1", 13, 0);
        badRule("bar [1 = 1", 10, 0);
        badRule("bar 1 = 1]", 9, 0);
        badRule("bar [1 = 1)", 10, 0);
        badRule("bar []", 5, 0);
        badRule("bar [1] = 1", 6, 0);
        badRule("bar 1 = [1 = 1]", 8, 0);
        badRule("bar not", 7, 0);
        badRule("bar not and 1 = 1", 8, 0);
        badRule("bar 1 =< 1", 7, 0);
        badRule("bar 1 == 1", 7, 0);
        badRule("bar 1 <> 1", 7, 0);
        badRule("bar 1 <== 1", 8, 0);
        badRule("bar 1 ! 1", 6, 0);
        badRule("want 1 = 1", 7, 0);
        badRule("want -1", 5, 0);
        badRule("want 1 + -1", 9, 0);
        badRule("want 1 ** 1", 8, 0);
        badRule("want (1)", 5, 0);
        badRule("want [1]", 5, 0);
        badRule("want 1 or 1", 7, 0);
        badRule("want", 4, 0);
        badRule("want <= 1", 5, 0);
        badRule("want 1 + >= 1", 9, 0);
        badRule("bar 1 = >= 1", 8, 0);
        badRule("bar 1 is 1", 6, 0);
        badRule("bar 1 123456 1", 6, 0);
        badRule("bar 1 day 1", 6, 0);
        badCountry("places <= 2", 7, 0);
        badCountry("<= 2", 0, 0);
    }

    private static void numbers() {
        sentence("NUMBER (1 to 5 digits, as far as digits go on)");
        comesTo("0", 0);
        comesTo("9", 9);
        comesTo("00000", 0);
        comesTo("00012", 12);
        holds("99999 = 9*11111", true);
        holds("99999 + 1 = 10*10000", true);
        holds("10000 > 9999", true);
        due("five digits in a COUNTRY", goodCountry("places 00008;person 00007 00099;wish 00000 00000 00001", 1).person(0, 1), 99);
        sentence("1 a NUMBER of more digits, or not as told");
        badRule("want 100000", 5, 1);
        badRule("want 000000", 5, 1);
        badRule("want 1+ 000001+x", 8, 1);
        badRule("want " + "1".repeat(395), 5, 1);
        badRule("bar 1 = 123456", 8, 1);
        badCountry("places 000002", 7, 1);
        badCountry("places " + "2".repeat(393), 7, 1);
        badCountry("places 2;person 000000 1", 16, 1);
        badCountry("places 2;person 0 000001", 18, 1);
        badCountry("places 4;person 0 1;wish 0 0 4294967297", 29, 1);
    }

    private static void words() {
        sentence("WORDS (small letters, as far as these go on)");
        for (String word : new String[] {"person", "weight", "home", "at", "to", "wish", "with", "other", "ring",
            "owes", "day", "moved"}) {
            goodRule("want " + word);
            goodRule("bar 1*" + word + "=1");
            badRule("want " + word.substring(0, word.length() - 1), 5, 0);
            badRule("want 1+" + word + "s", 7, 0);
            badRule("want 1-" + word + word, 7, 0);
            badRule("want " + word.toUpperCase(), 5, 0);
            badRule("want " + word + "1", 5 + word.length(), 0);
        }
        for (String word : new String[] {"places", "bench", "call", "bar", "want", "if", "or", "and", "not"}) {
            badRule("want " + word, 5, 0);
            badRule("bar 1=" + word, 6, 0);
        }
        // The first letter and the last one are letters, too.
        badRule("want dayz", 5, 0);
        badRule("want daya", 5, 0);
        badRule("want zday", 5, 0);
        badRule("want aday", 5, 0);
        badRule("want 1 iff 1=1", 7, 0);
        badRule("want 1 i", 7, 0);
        badRule("bar 1=1 orday=1", 8, 0);
        badRule("bar 1=1 andday=1", 8, 0);
        badRule("bar notday=1", 4, 0);
        badRule("barday=1", 0, 0);
        badRule("wantday", 0, 0);
        goodRule("want 1if 1=1");
        goodRule("bar 1=1or 1=1and 1=1");
        holds("1=2or 1=1", true);
    }

    // ---- RULES

    private static void clausesOfRule() {
        sentence("RULES: 12 CLAUSES at most");
        goodRule("want 1");
        goodRule("bar 1=1");
        String twelve = "want 1" + ";bar 1=1;want 1".repeat(5) + ";want 1";
        goodRule(twelve);
        goodRule(twelve + " if 1=1");
        due("the 12th counts", land(TWO, "bar 1=2;".repeat(11) + "want 55").liking(0, 1), 55);
        badRule("", 0, 0);
        badRule("want 1;", 7, 0);
        badRule(";want 1", 0, 0);
        badRule("want 1;;want 1", 7, 0);
        badRule(twelve + ";", twelve.length() + 1, 0);
        sentence("one CLAUSE too many (at its first byte)");
        badRule(twelve + ";want 1", twelve.length() + 1, 4);
        badRule(twelve + " ; bar", twelve.length() + 3, 4);
        sentence("RULES 0 to 5");
        ChangePlaces x = new ChangePlaces();
        for (int i = 0; i < 6; i++) {
            due("RULE " + i, tellRule(x, "want " + i), i);
        }
        due("force(5)", x.force(5), NONE);
        due("force(0)", x.force(0), 5);
    }

    private static void formOfRule() {
        sentence("bar TEST | want SUM [ if TEST ]");
        badRule("bar", 3, 0);
        badRule("bar if 1=1", 4, 0);
        badRule("bar 1=1 if 1=1", 8, 0);
        badRule("want if 1=1", 5, 0);
        badRule("want 1 if", 9, 0);
        badRule("want 1 if 1=1 if 1=1", 14, 0);
        badRule("if 1=1", 0, 0);
        badRule("want 1 bar 1=1", 7, 0);
    }

    private static void tests() {
        sentence("TEST: PART { or PART }. PART: FACT { and FACT }. FACT: not FACT | [ TEST ] | SUM SIGN SUM");
        holds("1=1 or 1=1 and 1=2", true);
        holds("1=2 and 1=1 or 1=1", true);
        holds("1=2 and 1=2 or 1=2", false);
        holds("[1=1 or 1=1] and 1=2", false);
        holds("not 1=2 or 1=1", true);
        holds("not 1=1 and 1=2", false);
        holds("not [1=1 and 1=2]", true);
        holds("not not 1=2", false);
        holds("1=2 or 1=2 or 1=2 or 1=1", true);
        holds("1=1 and 1=1 and 1=1 and 1=2", false);
        sentence("SIGN one of < <= = >= >");
        String[] signs = {"<", "<=", "=", ">=", ">"};
        boolean[][] want = {{true, true, false, false, false}, {false, true, true, true, false}, {false, false, false, true, true}};
        for (int i = 0; i < 5; i++) {
            holds("5" + signs[i] + "6", want[0][i]);
            holds("6" + signs[i] + "6", want[1][i]);
            holds("7" + signs[i] + "6", want[2][i]);
            holds("0-7" + signs[i] + "6", want[0][i]);
            for (int other = 5; other <= 7; other++) {
                boolean is = want[other - 5][i];
                holds("not " + other + signs[i] + "6", !is);
                holds("not not " + other + signs[i] + "6", is);
                holds(other + signs[i] + "6 and 1=1", is);
                holds("1=1 and " + other + signs[i] + "6", is);
                holds(other + signs[i] + "6 and " + other + signs[i] + "6", is);
                holds(other + signs[i] + "6 or 1=2", is);
            }
        }
    }

    private static void sums() {
        sentence("SUM: TERM { (+ or -) TERM }. TERM: VALUE { (* or /) VALUE }.");
        comesTo("20-3-2", 15);
        comesTo("20-3+2", 19);
        comesTo("2+3*4", 14);
        comesTo("2*3+4", 10);
        comesTo("60/5/2", 6);
        comesTo("60/5*2", 24);
        comesTo("7/2*2", 6);
        comesTo("1-2*3-4*5", -25);
        sentence("/ is towards 0");
        comesTo("7/2", 3);
        comesTo("1/2", 0);
        comesTo("99/100*100", 0);
        comesTo("100/100", 1);
        // 49151 * 2^48 goes round to -16385 * 2^48.
        holds("65536*65536*65536*49151/65536/65536/65536 = 0-16385", true);
        holds("65536*65536*65536*49151/65536/65536/65536/2 = 0-8192", true);
        holds("65536*65536*65536*49151/65536/65536/65536/16386 = 0", true);
        sentence("0 by 0");
        comesTo("7/0", 0);
        comesTo("0/0", 0);
        comesTo("5+7/0", 5);
        comesTo("7/0*9+1", 1);
        comesTo("7/0/0", 0);
        comesTo("weight/person", 0);
        comesTo("1+weight/moved", 1);
    }

    private static void goesRound() {
        sentence("all goes round in 64 bits");
        String big = "65536*65536*65536*32768";
        holds(big + " < 0", true);
        holds(big + " - 1 > 0", true);
        holds(big + " - 1 + 1 < 0", true);
        holds(big + "*2 = 0", true);
        holds("65536*65536*65536*16384 > 0", true);
        holds("65536*65536*65536*16384 + 65536*65536*65536*16384 = " + big, true);
        holds("0 - " + big + " = " + big, true);
        holds("65536*65536 > 65536", true);
        holds("65536*32768 > 0", true);
        comesTo(big, -999);
        comesTo(big + "-1", 999);
        comesTo("65536*65536*65536*65536+3", 3);
    }

    private static void wordsOfWant() {
        sentence("with (99 for want), other (0 for want), ring (0 for want)");
        comesTo("with", 99);
        comesTo("other", 0);
        comesTo("ring", 0);
        holds("with = 99 and other = 0 and ring = 0", true);
        sentence("WORDS of a PERSON as to a PLACE");
        ChangePlaces x = land(people(10, ";wish 9 7 99;wish 9 2 1"), "want wish");
        due("wish", x.liking(9, 7), 99);
        due("wish (0 none)", x.liking(9, 0), 0);
        force(x, "want person");
        due("the least person", x.liking(0, 7), 0);
        due("the greatest person", x.liking(9, 0), 9);
        force(x, "want to*100+at*10+home");
        due("the least PLACES", x.liking(0, 0), 0);
        due("the greatest PLACES", x.liking(7, 7), 777);
        force(x, "want weight*100-owes-day-moved");
        due("weight, day 1, none OWED, not moved", x.liking(1, 0), 199);
        force(x, RESTLESS);
        due("go", ring(x, 9, 0), 9);
        x.dawn();
        force(x, "want owes*100+day*10+moved + home*0");
        due("owes, day, moved", x.liking(9, 0), 921);
        due("who OWES nothing, but moved", x.liking(0, 0), 21);
        due("who neither OWES nor moved", x.liking(1, 0), 20);
    }

    private static void barred(String test, boolean want) {
        ChangePlaces x = land("places 3;person 0 10;person 1 99;person 2 1", RESTLESS);
        force(x, RESTLESS + ";bar person=0 and [" + test + "]");
        callAll(x, 0, 1);
        due("bar " + test, x.may(), want ? 3 : 0);
    }

    private static void wordsOfBar() {
        sentence("with (bar: whose PLACE they take), other (that one's WEIGHT), ring (bar: how many change at once)");
        barred("with = 1", true);
        barred("with = 99", false);
        barred("other = 99", true);
        barred("other = 0", false);
        barred("ring = 2", true);
        barred("ring = 0", false);
        barred("at = 0 and to = 1 and home = 0 and weight = 10", true);
        ChangePlaces x = land("places 6;person 0 1;person 1 2;person 2 3;person 3 4;person 4 5;person 5 6", RESTLESS);
        for (int n = 2; n <= 6; n++) {
            force(x, RESTLESS + ";bar ring = " + n);
            int[] row = {0, 1, 2, 3, 4, 5};
            callAll(x, java.util.Arrays.copyOf(row, n));
            due("a RING of " + n, x.may(), 3);
            callAll(x, java.util.Arrays.copyOf(row, n == 6 ? 5 : n + 1));
            due("a RING of another size", x.may(), 0);
        }
        sentence("with: of the last one that is the first");
        ChangePlaces y = land("places 3;person 0 1;person 1 2;person 2 3", RESTLESS + ";bar person=2 and with=0 and other=1");
        callAll(y, 0, 1, 2);
        due("2 takes the PLACE of 0", y.may(), 3);
        callAll(y, 0, 2, 1);
        due("2 takes the PLACE of 1", y.may(), 0);
    }

    private static void depth() {
        sentence("[ and not lie within one another 10 deep at most");
        goodRule("bar " + "not ".repeat(10) + "1=1");
        goodRule("bar " + "[".repeat(10) + "1=1" + "]".repeat(10));
        goodRule("bar " + "not [".repeat(5) + "1=1" + "]".repeat(5));
        goodRule("bar " + "[not ".repeat(5) + "1=1" + "]".repeat(5));
        goodRule("want 1 if " + "[".repeat(10) + "1=1" + "]".repeat(10) + " and " + "not ".repeat(10) + "1=1 or "
                + "[".repeat(10) + "1=1" + "]".repeat(10));
        goodRule("bar not [1=1 and not [1=1 or not [1=1 and not [1=1 or not [1=1]]]]] and not 1=1");
        holds("not ".repeat(10) + "1=1", true);
        holds("not ".repeat(9) + "1=1", false);
        holds("not [".repeat(5) + "1=1" + "]".repeat(5), false);
        sentence("2 too deep (at the sign that opens, or the word not)");
        badRule("bar " + "not ".repeat(11) + "1=1", 44, 2);
        badRule("bar " + "[".repeat(11) + "1=1", 14, 2);
        badRule("bar " + "not[".repeat(5) + "not 1=1", 24, 2);
        badRule("bar " + "not[".repeat(5) + " [1=1", 25, 2);
        badRule("bar " + "[not ".repeat(5) + "[", 29, 2);
        badRule("bar " + "[".repeat(10) + "1=1 or [1=1", 21, 2);
        badRule("bar " + "[".repeat(10) + "1=1 and not 1=1", 22, 2);
        badRule("bar " + "[".repeat(9) + "not [", 17, 2);
        badRule("want 1 if " + "[".repeat(390), 20, 2);
    }

    private static void parts() {
        sentence("at most 60 VALUES (of SUMS) and FACTS made of a SIGN, together");
        String sixty = "want 1" + "+1".repeat(59);
        goodRule(sixty);
        comesTo("1" + "+1".repeat(59), 60);
        goodRule("bar 1=1" + " and 1=1".repeat(19));
        goodRule("bar [not 1=1]" + " and [not 1=1]".repeat(19));
        goodRule("want 1+1+1;want day/to*3 if 1=1" + ";bar 1=1".repeat(10) + "-1".repeat(21));
        String twelve = "want 1+1+1+1+1" + ";want 1+1+1+1+1".repeat(11);
        goodRule(twelve);
        sentence("3 one VALUE or FACT too many (at its first byte; of a FACT at its SIGN)");
        badRule(sixty + "+1", 125, 3);
        badRule(sixty + "+ 12345", 126, 3);
        badRule(sixty + "+moved", 125, 3);
        badRule(sixty + " if 1=1", 128, 3);
        badRule("bar 1=1" + " and 1=1".repeat(19) + " and 1=1", 164, 3);
        // 59 are told: the 60th is the left VALUE, the 61st the FACT at its SIGN.
        badRule("want 1" + "+1".repeat(58) + " if 1 >= 1", 128, 3);
        // 58: the 60th is the FACT, the 61st its right VALUE.
        badRule("want 1" + "+1".repeat(57) + " if 1 >= 1", 129, 3);
        goodRule("want 1" + "+1".repeat(56) + " if 1 >= 1");
        badRule("want 1" + "+1".repeat(56) + " if 1>=1 + 1", 129, 3);
        badRule("want 1+1" + ";want 1+1+1+1+1".repeat(11) + ";want 1", 174, 4);
        badRule("want 1+1+1+1+1+1" + ";want 1+1+1+1+1".repeat(11), 180, 3);
        badRule(sixty + ";want 1", 130, 3);
        badRule(sixty + ";bar day=1", 129, 3);
    }

    // ---- FAULTS

    private static void faultNumbers() {
        sentence("FAULTS: 1 + 8 * its place and 0, 1, 2, 3, 4");
        ChangePlaces x = new ChangePlaces();
        say(x, "");
        due("0 at 0", x.country(), -3);
        say(x, "bench 0");
        due("4 at 0", x.country(), -7);
        say(x, "places 9");
        due("1 at 7", x.country(), -60);
        say(x, "bar " + "[".repeat(11));
        due("2 at 14", x.rule(), -117);
        say(x, "want 1" + "+1".repeat(60));
        due("3 at 125", x.rule(), -1006);
        say(x, " ".repeat(400));
        due("0 at 400, the greatest", x.rule(), -3203);
        say(x, "places 2" + " ".repeat(391) + "(");
        due("0 at 399", x.country(), -3195);
    }

    private static void firstFault() {
        sentence("FAULTS, the first along the text");
        badCountry("places 9;places 2", 7, 1);
        badCountry("places 2;places 9;x", 9, 4);
        badCountry("places 2;person 0 0 x", 18, 1);
        badCountry("places 2;person 5 x", 16, 1);
        badCountry("places 2 x;person 0 0", 9, 0);
        badRule("want 1;want 123456;x", 12, 1);
        badRule("bar " + "[".repeat(11) + "123456", 14, 2);
        badRule("want x + 123456", 5, 0);
        badRule("want 123456 x", 5, 1);
        badRule("want 1" + "+1".repeat(60) + "+123456;x", 125, 3);
        badRule("want 1 [" + "[".repeat(11), 7, 0);
    }

    private static void leastFault() {
        sentence("Of one place the least");
        String full = "places 2;person 0 1" + ";bench0".repeat(46);
        badCountry(full + ";benc", full.length() + 1, 0);
        badCountry(full + ";", full.length() + 1, 0);
        badCountry(full + ";7", full.length() + 1, 0);
        badCountry("places 2" + ";person 0 1".repeat(10) + ";perso", 119, 0);
        badCountry("places 2" + ";call 0".repeat(8) + ";cal 0", 65, 0);
        badCountry("persons 0 1;places 2", 0, 0);
        String twelve = "want 1" + ";want 1".repeat(11);
        badRule(twelve + ";wants", 84, 0);
        badRule(twelve + ";", 84, 0);
        String sixty = "want 1" + "+1".repeat(59);
        badRule(sixty + "+123456", 125, 1);
        badRule(sixty + "+x", 125, 0);
        badRule(sixty + "+", 125, 0);
        badRule(sixty + "+[", 125, 0);
        badRule("want 1" + "+1".repeat(58) + " if 1 ! 1", 128, 0);
        badRule("bar " + "[".repeat(10) + "nots", 14, 0);
    }

    // ---- promises 4 to 6

    private static void countryComes() {
        sentence("country: The TAPE, which is empty then, is the COUNTRY: how many PEOPLE");
        due("nobody", goodCountry("places 2", 0).count(0), 2);
        goodCountry("places 2;person 0 1", 1);
        goodCountry(people(10, ""), 10);
        ChangePlaces x = land("places 2");
        due("empty: no COUNTRY once more", x.country(), fault(0, 0));
        due("empty: feed begins anew", x.feed(0x706c6163, 0x65732034, 0x20202020, 0x20202020, 0x20202020), 20);
        due("country", x.country(), 0);
        due("PLACES", x.count(0), 4);
    }

    private static void countryRefused() {
        sentence("country: -2 - its FAULT, and all stays");
        for (String text : new String[] {"", "places 9", "places 2;person 0 1;wish 0 0 9;bench 0;call 0;x"}) {
            Make told = () -> {
                ChangePlaces x = midst();
                say(x, text);
                return x;
            };
            ChangePlaces x = new ChangePlaces();
            say(x, text);
            staysBut("country of '" + text + "'", told, ChangePlaces::country, x.country(), y -> y.end(0));
            due("no COUNTRY of '" + text + "'", x.count(0), 0);
            due("no DAY of '" + text + "'", x.count(5), 0);
            due("no PERSON of '" + text + "'", x.person(0, 0), NONE);
        }
    }

    private static void countryAnew() {
        sentence("country: nobody CALLED, nothing OWED, no BOOK, none FOUND, nothing to be UNDONE");
        ChangePlaces x = midst();
        due("asked ahead of it", x.liking(2, 0) + x.most(3, 0) + x.core(0) + x.blocks(2) + x.liars(0) + x.lie(1, 0)
                + x.reached(NONE) + x.journey(1, 0) + x.done(0) + x.changers(0, 2) > 0, true);
        say(x, "places 3;person 2 4;person 0 2;person 1 9;person 2 1");
        due("country", x.country(), 4);
        due("nobody CALLED", x.count(6), 0);
        due("may", x.may(), NONE);
        due("nothing OWED", x.count(9), 0);
        due("owes(0, 1)", x.owes(0, 1), 0);
        due("person(0, 5)", x.person(0, 5), 0);
        due("person(1, 6)", x.person(1, 6), 0);
        due("no BOOK", x.count(7), 0);
        due("laidOut(0)", x.laidOut(0), -2);
        due("none FOUND", x.count(10), 0);
        due("done(0)", x.done(0), 0);
        due("nothing to be UNDONE", x.count(8), 0);
        due("undo", x.undo(), NONE);
        due("no RINGS done", x.count(11), 0);
        due("moved", x.person(0, 4), 0);
        due("DAY 1", x.count(5), 1);
        sentence("country: in place of the one there was");
        due("PLACES", x.count(0), 3);
        due("calls", x.count(2), 0);
        due("calls at 1", x.place(1, 3), 0);
        for (int person = 0; person < 4; person++) {
            due("bench", x.person(person, 3), 0);
        }
        due("no PERSON 4", x.person(4, 0), NONE);
        due("no PLACE 3", x.place(3, 0), NONE);
        due("no wishes", x.wish(0, 1), 0);
        due("where they are", x.person(0, 0), 2);
        sentence("country: the RULE IN FORCE and x stay");
        due("IN FORCE", x.count(4), 1);
        due("RULES", x.count(3), 2);
        due("LIKING by it", x.liking(0, 1), 9);
        due("x", x.count(12), 77);
        due("IMAGES", x.back(2), 2);
        due("of the other COUNTRY", x.count(0), 4);
        sentence("country: what is asked is asked of the new one");
        ChangePlaces y = land("places 2;person 0 1;person 1 1;wish 0 1 5;wish 1 0 5");
        due("liking", y.liking(0, 1), 5);
        due("changers", y.changers(0, 2), 1);
        due("most", y.most(2, 0), 10);
        due("core", y.core(0), 1);
        due("blocks", y.blocks(2), 0);
        due("reached", y.reached(NONE), 2);
        due("done", y.done(1), 1);
        due("lie", y.lie(0, 1), -2);
        say(y, "places 3;person 0 1;person 1 1;person 1 1;wish 0 1 7;wish 1 0 3;wish 2 0 9");
        due("country", y.country(), 3);
        due("liking", y.liking(0, 1), 7);
        due("changers", y.changers(0, 2), 2);
        due("most", y.most(2, 0), 16);
        due("core", y.core(2), 2);
        due("blocks", y.blocks(2), 0);
        due("reached", y.reached(NONE), 3);
        y.found(2, 0);
        due("done", y.done(0), 1);
        due("lie", y.lie(0, 1), 0);
    }

    private static void ruleComes() {
        sentence("rule: The TAPE, which is empty then, is a RULE: its number");
        ChangePlaces x = new ChangePlaces();
        say(x, "want 5");
        due("the first", x.rule(), 0);
        due("empty", x.count(13), 0);
        due("no RULE of nothing", x.rule(), fault(0, 0));
        due("none IN FORCE by it", x.count(4), NONE);
        say(x, "want 6");
        due("a FAULT takes no number", x.rule(), 1);
        say(x, TWO);
        x.country();
        x.force(0);
        due("the first is as it was", x.liking(0, 0), 5);
        x.force(1);
        due("the second", x.liking(0, 0), 6);
    }

    private static ChangePlaces sixRules() {
        ChangePlaces x = midst();
        for (int i = x.count(3); i < 6; i++) {
            tellRule(x, "want wish+" + i);
        }
        callAll(x, 0, 3);
        say(x, "places 3;person 2 8");
        return x;
    }

    private static void ruleRefused() {
        sentence("rule: -2 - its FAULT");
        for (String text : new String[] {"", "want 5;want 6;bar 1", "want 123456"}) {
            Make told = () -> {
                ChangePlaces x = midst();
                say(x, text);
                return x;
            };
            ChangePlaces x = new ChangePlaces();
            say(x, text);
            staysBut("rule of '" + text + "'", told, ChangePlaces::rule, x.rule(), y -> y.end(0));
        }
        sentence("rule: of what had a FAULT nothing is left");
        ChangePlaces late = land(TWO);
        String sixty = "want 1" + "+1".repeat(59);
        for (int i = 0; i < 12; i++) {
            say(late, sixty + "+1");
            due("a FAULT", late.rule(), fault(125, 3));
        }
        for (int i = 0; i < 6; i++) {
            due("a sound one", force(late, sixty), i);
            due("what it comes to", late.liking(0, 1), 60);
        }
        sentence("rule: NONE, and nothing happens: there are 6");
        stays("a seventh RULE", TextEdgesTest::sixRules, ChangePlaces::rule, NONE);
        Make good = () -> {
            ChangePlaces x = sixRules();
            say(x, "want 1");
            return x;
        };
        stays("a seventh RULE that is sound", good, ChangePlaces::rule, NONE);
    }

    private static void forced() {
        sentence("force: A RULE is IN FORCE (NONE: none): which was");
        ChangePlaces x = sixRules();
        due("the greatest", x.force(5), 1);
        due("the least", x.force(0), 5);
        due("the same", x.force(0), 0);
        due("NONE", x.force(NONE), 0);
        due("NONE again", x.force(NONE), NONE);
        due("LIKING without a RULE", x.liking(0, 1), 9);
        due("one again", x.force(1), NONE);
        due("LIKING by it", x.liking(0, 2), 9);
        changes("force", Edges::midst, y -> y.force(0), 1);
        sentence("force: -2, and nothing happens, if there is none such");
        for (int rule : new int[] {2, 5, 6, -2, -3, FAR_BELOW, FAR_ABOVE}) {
            stays("force(" + rule + ")", Edges::midst, y -> y.force(rule), -2);
        }
        for (int rule : new int[] {6, 7, -2}) {
            stays("force(" + rule + ") of six", TextEdgesTest::sixRules, y -> y.force(rule), -2);
        }
        due("no RULES", new ChangePlaces().force(0), -2);
    }
}
