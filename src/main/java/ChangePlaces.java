import java.util.Arrays;

/**
 * A country in which one travels by changing places alone. README.md tells how
 * it is used; the words in capitals are those of the document.
 */
public final class ChangePlaces {
    public static final int NONE = -1;

    private static final int WITHOUT = -2;
    private static final int NEVER = -2;
    private static final int UNKNOWN = -3;
    private static final int NO_LIKING = -1000;
    private static final int LIKING_MOST = 999;

    private static final int TAPE_MOST = 400;
    private static final int FEED_BYTES = 20;
    private static final int PEOPLE_MOST = 10;
    private static final int PLACES_MOST = 8;
    private static final int CALLS_MOST = 8;
    private static final int WORTH_MOST = 99;
    private static final int WEIGHT_MOST = 99;
    private static final int RULES_MOST = 6;
    private static final int RING_MOST = 6;
    private static final int BOOK_MOST = 12;
    private static final int UNDO_MOST = 20;
    private static final int IMAGES = 4;
    private static final int DAY_MOST = 9999;
    private static final int SITUATIONS_MOST = 2000;
    private static final int YEARS_MOST = 20;
    private static final int TWOS_MOST = 200;

    private static final int CANT_STAND = 0;
    private static final int WRONG_NUMBER = 1;
    private static final int TOO_DEEP = 2;
    private static final int TOO_MANY_PARTS = 3;
    private static final int WRONG_CLAUSE = 4;

    private final Tape tape = new Tape();
    private final Country draft = new Country();
    private final Rule[] rules = new Rule[RULES_MOST];
    private final State state = new State();
    private final State[] images = new State[IMAGES];
    private final Laws laws = new Laws(state.land, state.now);
    private final Most mostWay = new Most(laws, state.now);
    private final Core coreWay = new Core(laws, state.now);
    private final Standing trial = new Standing();
    private final Ring two = new Ring();
    private final int[] likes = new int[PEOPLE_MOST * PLACES_MOST];
    private final int[] spots = new int[PEOPLE_MOST];
    private final int[] days = new int[BOOK_MOST];
    private final int[] servers = new int[PLACES_MOST];
    private Rule draftRule = new Rule();
    private int ruleCount = 0;
    private int likesEdition = 0;
    // Dear to hold, so they are made when first asked for.
    private Search fromNow = null;
    private Search fromHome = null;

    public ChangePlaces() {
    }

    // ---- the texts

    public int feed(int a, int b, int c, int d, int e) {
        if (tape.length + FEED_BYTES > TAPE_MOST) {
            return NONE;
        }
        tape.put(a);
        tape.put(b);
        tape.put(c);
        tape.put(d);
        tape.put(e);
        return tape.length;
    }

    public int end(int n) {
        if (n < 0 || n > tape.length) {
            return NONE;
        }
        tape.length = n;
        return n;
    }

    public int country() {
        boolean sound = draft.readFrom(tape);
        tape.length = 0;
        if (!sound) {
            return -2 - tape.fault;
        }
        state.beginIn(draft);
        stir();
        return state.land.people;
    }

    public int rule() {
        if (ruleCount >= RULES_MOST) {
            return NONE;
        }
        boolean sound = draftRule.readFrom(tape);
        tape.length = 0;
        if (!sound) {
            return -2 - tape.fault;
        }
        rules[ruleCount] = draftRule;
        draftRule = new Rule();
        ruleCount++;
        return ruleCount - 1;
    }

    public int force(int rule) {
        if (rule < NONE || rule >= ruleCount) {
            return WITHOUT;
        }
        int before = state.inForce;
        state.inForce = rule;
        stir();
        return before;
    }

    // ---- what is so

    public int person(int person, int what) {
        if (!isPerson(person)) {
            return NONE;
        }
        switch (what) {
            case 0:
                return state.now.at[person];
            case 1:
                return state.land.weight[person];
            case 2:
                return state.land.home[person];
            case 3:
                return state.land.onBench(person) ? 1 : 0;
            case 4:
                return state.now.moved[person];
            case 5:
                return state.now.debt[person];
            case 6:
                return state.now.creditOf(person);
            case 7:
                return laws.content(person, state.now.at[person]) ? 1 : 0;
            default:
                return NONE;
        }
    }

    public int wish(int person, int place) {
        if (!isPerson(person) || !isPlace(place)) {
            return NONE;
        }
        return state.land.worth[person * PLACES_MOST + place];
    }

    public int liking(int person, int place) {
        if (!isPerson(person) || !isPlace(place)) {
            return NO_LIKING;
        }
        return laws.likingOf(person, state.now.at[person], place);
    }

    public int desire(int person, int place, int worth) {
        if (!isPerson(person) || !isPlace(place) || worth < 0 || worth > WORTH_MOST) {
            return NONE;
        }
        int key = person * PLACES_MOST + place;
        int before = state.land.worth[key];
        state.land.worth[key] = worth;
        stir();
        return before;
    }

    public int place(int place, int what) {
        if (!isPlace(place)) {
            return NONE;
        }
        switch (what) {
            case 0:
                return whoIsAt(place);
            case 1:
                return whoWouldComeTo(place);
            case 2:
                return whoWouldLeave(place);
            case 3:
                return state.land.callsAt[place];
            default:
                return NONE;
        }
    }

    public int count(int what) {
        switch (what) {
            case 0:
                return state.land.places;
            case 1:
                return state.land.people;
            case 2:
                return state.land.calls;
            case 3:
                return ruleCount;
            case 4:
                return state.inForce;
            case 5:
                return state.now.day;
            case 6:
                return state.called.size;
            case 7:
                return state.bookSize;
            case 8:
                return state.pastSize;
            case 9:
                return state.now.debtInAll();
            case 10:
                return state.foundPeople();
            case 11:
                return state.now.rings;
            case 12:
                return state.x;
            case 13:
                return tape.length;
            default:
                return NONE;
        }
    }

    // ---- by hand

    public int call(int person) {
        if (person == NONE) {
            state.called.size = 0;
            return 0;
        }
        if (!isPerson(person) || state.called.has(person) || state.called.size >= RING_MOST) {
            return WITHOUT;
        }
        state.called.add(person);
        return state.called.size;
    }

    public int may() {
        if (state.called.size < 2) {
            return NONE;
        }
        return laws.brokenByRing(state.called, state.now.at);
    }

    public int go() {
        if (state.called.size < 2) {
            return NONE;
        }
        int law = laws.brokenByRing(state.called, state.now.at);
        if (law != 0) {
            return -2 - law;
        }
        state.keepPast();
        int coal = state.now.change(state.called, state.land);
        state.called.size = 0;
        stir();
        return coal;
    }

    public int undo() {
        if (!state.takePast()) {
            return NONE;
        }
        stir();
        return state.pastSize;
    }

    public int owes(int one, int other) {
        if (!isPerson(one) || !isPerson(other) || one == other) {
            return NONE;
        }
        return state.now.owed[one * PEOPLE_MOST + other];
    }

    public int pay(int one, int other, int n) {
        if (!isPerson(one) || !isPerson(other) || one == other) {
            return NONE;
        }
        int key = one * PEOPLE_MOST + other;
        if (n < 1 || n > state.now.owed[key]) {
            return NONE;
        }
        state.now.addDebt(one, other, -n);
        stir();
        return state.now.owed[key];
    }

    public int strike() {
        if (!hasCountry()) {
            return NONE;
        }
        int less = state.now.strikeRings(state.land.people);
        stir();
        return less;
    }

    public int dawn() {
        if (!hasCountry() || state.now.day >= DAY_MOST) {
            return NONE;
        }
        state.now.day++;
        stir();
        return state.now.day;
    }

    // ---- the BOOK

    public int book() {
        if (state.called.size < 2 || state.bookSize >= BOOK_MOST) {
            return NONE;
        }
        state.told[state.bookSize].copyFrom(state.called);
        state.called.size = 0;
        state.bookSize++;
        return state.bookSize - 1;
    }

    public int burn() {
        int had = state.bookSize;
        state.bookSize = 0;
        return had;
    }

    public int judged(int what) {
        if (what < 0 || what > 1) {
            return WITHOUT;
        }
        int verdict = judgeBook();
        if (verdict == NONE) {
            return what == 0 ? NONE : 0;
        }
        return what == 0 ? verdict >> 2 : verdict & 3;
    }

    public int then(int person) {
        if (!isPerson(person)) {
            return NONE;
        }
        judgeBook();
        return spots[person];
    }

    public int laidOut(int ring) {
        if (ring < NONE || ring >= state.bookSize) {
            return WITHOUT;
        }
        int longest = layOutBook();
        return ring == NONE ? longest : days[ring];
    }

    // ---- who changes with whom

    public int changers(int k, int what) {
        if (!hasCountry() || what < 0 || what > 2) {
            return NONE;
        }
        int[] at = state.now.at;
        int seen = 0;
        for (int i = 0; i < state.land.people; i++) {
            for (int j = i + 1; j < state.land.people; j++) {
                if (laws.canChange(i, j, at[i], at[j])) {
                    if (what != 2 && seen == k) {
                        return what == 0 ? i : j;
                    }
                    seen++;
                }
            }
        }
        return what == 2 ? seen : NONE;
    }

    public int most(int k, int what) {
        if (!hasCountry() || k < 2 || k > 4 || what < 0 || what > 1) {
            return NONE;
        }
        mostWay.settleOnce(k, likesNow());
        return what == 0 ? mostWay.gained() : mostWay.changing();
    }

    public int mostOf(int k, int person) {
        if (!isPerson(person) || k < 2 || k > 4) {
            return NONE;
        }
        mostWay.settleOnce(k, likesNow());
        return mostWay.takes[person];
    }

    public int core(int person) {
        if (!isPerson(person)) {
            return NONE;
        }
        coreWay.settle(likesNow(), PEOPLE_MOST);
        return coreWay.takes[person];
    }

    public int blocks(int what) {
        if (!hasCountry() || (what != 0 && (what < 2 || what > 4))) {
            return NONE;
        }
        if (what == 0) {
            coreWay.settle(likesNow(), PEOPLE_MOST);
            return coreWay.blockingTwos(likesNow());
        }
        mostWay.settleOnce(what, likesNow());
        return mostWay.blockingTwos(likesNow());
    }

    // ---- journeys

    public int journey(int person, int place) {
        if (!isPerson(person) || !isPlace(place)) {
            return NONE;
        }
        Search search = searchFromNow();
        int first = search.firstOf(goal(person, place));
        return first < 0 ? first : search.depth[first];
    }

    public int row(int person, int place, int k, int what) {
        if (!isPerson(person) || !isPlace(place) || k < 0 || what < 0 || what > 1) {
            return NONE;
        }
        Search search = searchFromNow();
        int first = search.firstOf(goal(person, place));
        if (first < 0) {
            return first;
        }
        if (k >= search.depth[first]) {
            return NEVER;
        }
        int pair = search.ringOnWay(first, k);
        return what == 0 ? pair / PEOPLE_MOST : pair % PEOPLE_MOST;
    }

    public int reached(int person) {
        if (!hasCountry() || (person != NONE && !isPerson(person))) {
            return WITHOUT;
        }
        Search search = searchFromNow();
        search.growAll();
        if (search.full()) {
            return UNKNOWN;
        }
        return person == NONE ? search.size : search.placesOf(person);
    }

    public boolean found(int person, int place) {
        if (!isPerson(person) || (place != NONE && !isPlace(place))) {
            return false;
        }
        state.foundAt[person] = place;
        return true;
    }

    public int done(int what) {
        if (!hasCountry() || what < 0 || what > 2) {
            return NONE;
        }
        Search search = searchFromHome();
        int first = search.firstOf(state.foundAt);
        if (first < 0) {
            return first;
        }
        int fewest = search.depth[first];
        if (!search.growThrough(fewest)) {
            return UNKNOWN;
        }
        if (what == 0) {
            return fewest;
        }
        if (what == 1) {
            return search.countOf(state.foundAt, fewest);
        }
        return search.ways[first] == 1 ? 1 : 0;
    }

    // ---- doctors

    public int doctors(int n) {
        if (!hasCountry() || n < NONE || n > PLACES_MOST) {
            return WITHOUT;
        }
        findServers();
        if (n == NONE) {
            return fewestDoctors();
        }
        return bestDoctors(Math.min(n, state.land.places));
    }

    public int served(int places) {
        if (!hasCountry() || places < 0 || places >= 1 << state.land.places) {
            return NONE;
        }
        findServers();
        return servedBy(places);
    }

    // ---- lies

    public int liars(int what) {
        if (!hasCountry() || what < 0 || what > 1) {
            return NONE;
        }
        int who = 0;
        for (int person = 0; person < state.land.people; person++) {
            if (wayOf(what).lieOf(person, likesNow()) >= 0) {
                who |= 1 << person;
            }
        }
        return who;
    }

    public int lie(int what, int person) {
        if (!isPerson(person) || what < 0 || what > 1) {
            return NONE;
        }
        return wayOf(what).lieOf(person, likesNow());
    }

    // ---- draws

    public int seed(int x) {
        if (x < 0) {
            return NONE;
        }
        int before = state.x;
        state.x = x;
        return before;
    }

    public int years(int m, int n, int what) {
        if (m < 1 || m > YEARS_MOST || n < 1 || n > TWOS_MOST) {
            return NONE;
        }
        if (what < 0 || what > 2 || state.land.people == 0) {
            return NONE;
        }
        int before = state.x;
        laws.askOf(trial);
        int total = 0;
        for (int year = 0; year < m; year++) {
            total += liveYear(n, what);
        }
        laws.askAsUsual();
        state.x = before;
        return total;
    }

    // ---- IMAGES

    public int image(int k) {
        if (k < 0 || k >= IMAGES) {
            return NONE;
        }
        if (images[k] == null) {
            images[k] = new State();
        }
        images[k].copyFrom(state);
        return state.now.rings;
    }

    public int back(int k) {
        if (k < 0 || k >= IMAGES || images[k] == null) {
            return NONE;
        }
        state.copyFrom(images[k]);
        stir();
        return state.now.rings;
    }

    // ---- what the calls share

    private boolean hasCountry() {
        return state.land.places > 0;
    }

    private boolean isPerson(int person) {
        return person >= 0 && person < state.land.people;
    }

    private boolean isPlace(int place) {
        return place >= 0 && place < state.land.places;
    }

    /** Whatever was worked out by the LAWS is forgotten, since what they look at has changed. */
    private void stir() {
        int rule = state.inForce;
        laws.renew(rule >= 0 && rule < ruleCount ? rules[rule] : null);
    }

    private int[] likesNow() {
        if (likesEdition != laws.edition) {
            for (int person = 0; person < state.land.people; person++) {
                for (int place = 0; place < state.land.places; place++) {
                    int liking = laws.likingOf(person, state.now.at[person], place);
                    likes[person * PLACES_MOST + place] = liking;
                }
            }
            likesEdition = laws.edition;
        }
        return likes;
    }

    private int whoIsAt(int place) {
        int who = 0;
        for (int person = 0; person < state.land.people; person++) {
            if (state.now.at[person] == place) {
                who |= 1 << person;
            }
        }
        return who;
    }

    private int whoWouldComeTo(int place) {
        int who = 0;
        for (int person = 0; person < state.land.people; person++) {
            int at = state.now.at[person];
            if (at != place && laws.likesMore(person, at, place)) {
                who |= 1 << person;
            }
        }
        return who;
    }

    private int whoWouldLeave(int place) {
        int who = 0;
        for (int person = 0; person < state.land.people; person++) {
            if (state.now.at[person] == place && !laws.content(person, place)) {
                who |= 1 << person;
            }
        }
        return who;
    }

    /** Leaves in spots where all are then; 4 * the first RING that can't be + its LAW, or NONE. */
    private int judgeBook() {
        System.arraycopy(state.now.at, 0, spots, 0, PEOPLE_MOST);
        for (int ring = 0; ring < state.bookSize; ring++) {
            int law = laws.brokenByRing(state.told[ring], spots);
            if (law != 0) {
                return ring * 4 + law;
            }
            state.told[ring].shift(spots);
        }
        return NONE;
    }

    private int layOutBook() {
        int longest = 0;
        for (int ring = 0; ring < state.bookSize; ring++) {
            int day = 1;
            for (int ahead = 0; ahead < ring; ahead++) {
                if (days[ahead] >= day && state.told[ring].meets(state.told[ahead])) {
                    day = days[ahead] + 1;
                }
            }
            days[ring] = day;
            longest = Math.max(longest, day);
        }
        return longest;
    }

    private int[] goal(int person, int place) {
        Arrays.fill(spots, NONE);
        spots[person] = place;
        return spots;
    }

    private Search searchFromNow() {
        if (fromNow == null) {
            fromNow = new Search(laws);
        }
        if (fromNow.edition != laws.edition) {
            fromNow.begin(state.now.at);
        }
        return fromNow;
    }

    private Search searchFromHome() {
        if (fromHome == null) {
            fromHome = new Search(laws);
        }
        if (fromHome.edition != laws.edition) {
            fromHome.begin(state.land.home);
        }
        return fromHome;
    }

    private void findServers() {
        for (int place = 0; place < state.land.places; place++) {
            servers[place] = 1 << place;
        }
        for (int person = 0; person < state.land.people; person++) {
            int at = state.now.at[person];
            for (int place = 0; place < state.land.places; place++) {
                if (state.land.onBench(person) || laws.likesMore(person, at, place)) {
                    servers[at] |= 1 << place;
                }
            }
        }
    }

    private int servedBy(int places) {
        int calls = 0;
        for (int place = 0; place < state.land.places; place++) {
            if ((servers[place] & places) != 0) {
                calls += state.land.callsAt[place];
            }
        }
        return calls;
    }

    private int fewestDoctors() {
        int best = (1 << state.land.places) - 1;
        for (int places = 0; places < 1 << state.land.places; places++) {
            boolean fewer = Integer.bitCount(places) < Integer.bitCount(best);
            if (fewer && servedBy(places) == state.land.calls) {
                best = places;
            }
        }
        return best;
    }

    private int bestDoctors(int n) {
        int best = 0;
        int bestCalls = -1;
        for (int places = 0; places < 1 << state.land.places; places++) {
            if (Integer.bitCount(places) == n) {
                int calls = servedBy(places);
                if (calls > bestCalls) {
                    best = places;
                    bestCalls = calls;
                }
            }
        }
        return best;
    }

    private Way wayOf(int what) {
        return what == 0 ? mostWay : coreWay;
    }

    private int drawnPerson() {
        state.x = (int) ((state.x * 1103515245L + 12345L) & 2147483647L);
        int people = state.land.people;
        return people == 0 ? 0 : (state.x >> 16) % people;
    }

    private int liveYear(int n, int what) {
        trial.copyFrom(state.now);
        int coal = 0;
        for (int drawn = 0; drawn < n; drawn++) {
            int one = drawnPerson();
            int other = drawnPerson();
            if (one != other && laws.canChange(one, other, trial.at[one], trial.at[other])) {
                two.size = 0;
                two.add(one);
                two.add(other);
                coal += trial.change(two, state.land);
            }
        }
        if (what == 0) {
            return trial.rings - state.now.rings;
        }
        return what == 1 ? coal : contentOnTrial();
    }

    private int contentOnTrial() {
        int content = 0;
        for (int person = 0; person < state.land.people; person++) {
            if (laws.content(person, trial.at[person])) {
                content++;
            }
        }
        return content;
    }

    /** The TAPE, and the words, numbers and signs that a text on it is cut into. */
    private static final class Tape {
        private static final int END = -1;
        private static final int NUMBER = 256;
        private static final int LONG_NUMBER = 257;
        private static final int AT_MOST = 258;
        private static final int AT_LEAST = 259;
        private static final int STRANGE_WORD = 260;
        private static final int FIRST_WORD = 300;
        private static final String WORDS =
                "person weight home at to wish with other ring owes day moved places bench call bar want if or and not";
        private static final int PERSON = FIRST_WORD;
        private static final int WISH = FIRST_WORD + 5;
        private static final int OWES = FIRST_WORD + 9;
        private static final int MOVED = FIRST_WORD + 11;
        private static final int PLACES = FIRST_WORD + 12;
        private static final int BENCH = FIRST_WORD + 13;
        private static final int CALL = FIRST_WORD + 14;
        private static final int BAR = FIRST_WORD + 15;
        private static final int WANT = FIRST_WORD + 16;
        private static final int IF = FIRST_WORD + 17;
        private static final int OR = FIRST_WORD + 18;
        private static final int AND = FIRST_WORD + 19;
        private static final int NOT = FIRST_WORD + 20;
        private static final int DIGITS_MOST = 5;

        private final byte[] bytes = new byte[TAPE_MOST];
        // A sign that is no part of a word or number is told by its byte.
        private final int[] kinds = new int[TAPE_MOST + 1];
        private final int[] places = new int[TAPE_MOST + 1];
        private final int[] numbers = new int[TAPE_MOST + 1];
        private int length = 0;
        private int pieces = 0;
        private int next = 0;
        private int fault = 0;

        void put(int four) {
            for (int shift = 24; shift >= 0 && length < TAPE_MOST; shift -= 8) {
                bytes[length] = (byte) (four >> shift);
                length++;
            }
        }

        /** Begins to read at the first piece. */
        void cut() {
            pieces = 0;
            next = 0;
            fault = 0;
            int at = 0;
            for (int i = 0; i < TAPE_MOST && at < length; i++) {
                int sign = byteAt(at);
                if (isLetter(sign)) {
                    at = cutWord(at);
                } else if (isDigit(sign)) {
                    at = cutNumber(at);
                } else if ((sign == '<' || sign == '>') && byteAt(at + 1) == '=') {
                    keep(sign == '<' ? AT_MOST : AT_LEAST, at, 0);
                    at += 2;
                } else {
                    if (sign != ' ') {
                        keep(sign, at, 0);
                    }
                    at++;
                }
            }
            keep(END, length, 0);
        }

        private int byteAt(int place) {
            return place >= 0 && place < length ? bytes[place] & 255 : END;
        }

        private static boolean isLetter(int sign) {
            return sign >= 'a' && sign <= 'z';
        }

        private static boolean isDigit(int sign) {
            return sign >= '0' && sign <= '9';
        }

        private void keep(int kind, int place, int number) {
            if (pieces <= TAPE_MOST) {
                kinds[pieces] = kind;
                places[pieces] = place;
                numbers[pieces] = number;
                pieces++;
            }
        }

        private int cutNumber(int from) {
            int to = from;
            int number = 0;
            while (to < length && isDigit(byteAt(to))) {
                if (to - from < DIGITS_MOST) {
                    number = number * 10 + byteAt(to) - '0';
                }
                to++;
            }
            keep(to - from <= DIGITS_MOST ? NUMBER : LONG_NUMBER, from, number);
            return to;
        }

        private int cutWord(int from) {
            int to = from;
            while (to < length && isLetter(byteAt(to))) {
                to++;
            }
            int kind = STRANGE_WORD;
            int begin = 0;
            int which = 0;
            for (int i = 0; i <= WORDS.length(); i++) {
                if (i == WORDS.length() || WORDS.charAt(i) == ' ') {
                    if (i - begin == to - from && matches(from, begin, i)) {
                        kind = FIRST_WORD + which;
                    }
                    begin = i + 1;
                    which++;
                }
            }
            keep(kind, from, 0);
            return to;
        }

        private boolean matches(int from, int begin, int end) {
            for (int i = begin; i < end; i++) {
                if (byteAt(from + i - begin) != WORDS.charAt(i)) {
                    return false;
                }
            }
            return true;
        }

        int kind() {
            return next < pieces ? kinds[next] : END;
        }

        int number() {
            return next < pieces ? numbers[next] : 0;
        }

        /** The end is never gone past. */
        void pass() {
            if (next + 1 < pieces) {
                next++;
            }
        }

        boolean take(int kind) {
            if (kind() != kind) {
                return false;
            }
            pass();
            return true;
        }

        /** The piece that stands here has a FAULT. */
        boolean fail(int what) {
            fault = 1 + 8 * (next < pieces ? places[next] : length) + what;
            return false;
        }
    }

    /** What a COUNTRY tells; without PLACES there is none. */
    private static final class Country {
        private static final int CLAUSES_MOST = 48;

        private final int[] weight = new int[PEOPLE_MOST];
        private final int[] home = new int[PEOPLE_MOST];
        private final int[] worth = new int[PEOPLE_MOST * PLACES_MOST];
        private final int[] callsAt = new int[PLACES_MOST];
        private int places = 0;
        private int people = 0;
        private int calls = 0;
        private int bench = 0;
        private int read = 0;

        boolean onBench(int person) {
            return (bench >> person & 1) != 0;
        }

        void copyFrom(Country other) {
            System.arraycopy(other.weight, 0, weight, 0, PEOPLE_MOST);
            System.arraycopy(other.home, 0, home, 0, PEOPLE_MOST);
            System.arraycopy(other.worth, 0, worth, 0, PEOPLE_MOST * PLACES_MOST);
            System.arraycopy(other.callsAt, 0, callsAt, 0, PLACES_MOST);
            places = other.places;
            people = other.people;
            calls = other.calls;
            bench = other.bench;
        }

        private void clear() {
            Arrays.fill(worth, 0);
            Arrays.fill(callsAt, 0);
            places = 0;
            people = 0;
            calls = 0;
            bench = 0;
        }

        /** Whether the whole text is sound; if not, the TAPE knows its FAULT. */
        boolean readFrom(Tape tape) {
            clear();
            tape.cut();
            for (int told = 0; told <= CLAUSES_MOST; told++) {
                int clause = tape.kind();
                if (!isClause(clause)) {
                    return tape.fail(CANT_STAND);
                }
                if (!mayStand(clause, told)) {
                    return tape.fail(WRONG_CLAUSE);
                }
                tape.pass();
                if (!readClause(tape, clause)) {
                    return false;
                }
                if (tape.kind() == Tape.END) {
                    return true;
                }
                if (!tape.take(';')) {
                    return tape.fail(CANT_STAND);
                }
            }
            return tape.fail(WRONG_CLAUSE);
        }

        private static boolean isClause(int kind) {
            return kind == Tape.PLACES || kind == Tape.PERSON || kind == Tape.WISH
                    || kind == Tape.BENCH || kind == Tape.CALL;
        }

        private boolean mayStand(int clause, int told) {
            if (told >= CLAUSES_MOST || (clause == Tape.PLACES) != (told == 0)) {
                return false;
            }
            if (clause == Tape.PERSON) {
                return people < PEOPLE_MOST;
            }
            return clause != Tape.CALL || calls < CALLS_MOST;
        }

        private boolean readClause(Tape tape, int clause) {
            switch (clause) {
                case Tape.PLACES:
                    return readPlaces(tape);
                case Tape.PERSON:
                    return readPerson(tape);
                case Tape.WISH:
                    return readWish(tape);
                case Tape.BENCH:
                    return readBench(tape);
                default:
                    return readCall(tape);
            }
        }

        private boolean readNumber(Tape tape, int least, int greatest) {
            int kind = tape.kind();
            if (kind != Tape.NUMBER && kind != Tape.LONG_NUMBER) {
                return tape.fail(CANT_STAND);
            }
            read = tape.number();
            if (kind == Tape.LONG_NUMBER || read < least || read > greatest) {
                return tape.fail(WRONG_NUMBER);
            }
            tape.pass();
            return true;
        }

        private boolean readPlaces(Tape tape) {
            if (!readNumber(tape, 2, PLACES_MOST)) {
                return false;
            }
            places = read;
            return true;
        }

        private boolean readPerson(Tape tape) {
            if (!readNumber(tape, 0, places - 1)) {
                return false;
            }
            home[people] = read;
            if (!readNumber(tape, 1, WEIGHT_MOST)) {
                return false;
            }
            weight[people] = read;
            people++;
            return true;
        }

        private boolean readWish(Tape tape) {
            if (!readNumber(tape, 0, people - 1)) {
                return false;
            }
            int person = read;
            if (!readNumber(tape, 0, places - 1)) {
                return false;
            }
            int place = read;
            if (!readNumber(tape, 1, WORTH_MOST)) {
                return false;
            }
            worth[person * PLACES_MOST + place] = read;
            return true;
        }

        private boolean readBench(Tape tape) {
            if (!readNumber(tape, 0, people - 1)) {
                return false;
            }
            bench |= 1 << read;
            return true;
        }

        private boolean readCall(Tape tape) {
            if (!readNumber(tape, 0, places - 1)) {
                return false;
            }
            callsAt[read]++;
            calls++;
            return true;
        }
    }

    /**
     * A RULE as a row of steps for a stack: a NUMBER stands for itself, then
     * come the WORDS, then what is done with the topmost ones.
     */
    private static final class Rule {
        private static final int CLAUSES_MOST = 12;
        private static final int PARTS_MOST = 60;
        private static final int DEPTH_MOST = 10;
        private static final int WORDS = 12;

        private static final int FIRST_WORD = 100000;
        private static final int FIRST_DEED = FIRST_WORD + WORDS;
        private static final int ADD = FIRST_DEED;
        private static final int TAKE = FIRST_DEED + 1;
        private static final int TIMES = FIRST_DEED + 2;
        private static final int BY = FIRST_DEED + 3;
        private static final int LESS = FIRST_DEED + 4;
        private static final int AT_MOST = FIRST_DEED + 5;
        private static final int EQUAL = FIRST_DEED + 6;
        private static final int AT_LEAST = FIRST_DEED + 7;
        private static final int MORE = FIRST_DEED + 8;
        private static final int NOT = FIRST_DEED + 9;
        private static final int AND = FIRST_DEED + 10;
        private static final int OR = FIRST_DEED + 11;

        // Every step has a byte of its own in the text, so this is enough.
        private final int[] steps = new int[TAPE_MOST];
        private final boolean[] bars = new boolean[CLAUSES_MOST];
        private final int[] from = new int[CLAUSES_MOST];
        private final int[] testFrom = new int[CLAUSES_MOST];
        private final int[] to = new int[CLAUSES_MOST];
        private int length = 0;
        private int clauses = 0;
        private int parts = 0;
        // Whether it asks for what grows by RINGS: what is OWED, how often one changed.
        private boolean growing = false;

        /** Whether the whole text is sound; if not, the TAPE knows its FAULT. */
        boolean readFrom(Tape tape) {
            length = 0;
            clauses = 0;
            parts = 0;
            growing = false;
            tape.cut();
            for (int told = 0; told <= CLAUSES_MOST; told++) {
                int clause = tape.kind();
                if (clause != Tape.BAR && clause != Tape.WANT) {
                    return tape.fail(CANT_STAND);
                }
                if (clauses >= CLAUSES_MOST) {
                    return tape.fail(WRONG_CLAUSE);
                }
                tape.pass();
                if (!readClause(tape, clause == Tape.BAR)) {
                    return false;
                }
                clauses++;
                if (tape.kind() == Tape.END) {
                    return true;
                }
                if (!tape.take(';')) {
                    return tape.fail(CANT_STAND);
                }
            }
            return tape.fail(WRONG_CLAUSE);
        }

        private boolean readClause(Tape tape, boolean bar) {
            bars[clauses] = bar;
            from[clauses] = length;
            if (!bar && !readSum(tape)) {
                return false;
            }
            testFrom[clauses] = length;
            if ((bar || tape.take(Tape.IF)) && !readTest(tape, 0)) {
                return false;
            }
            to[clauses] = length;
            return true;
        }

        private void step(int deed) {
            if (deed != NONE && length < TAPE_MOST) {
                steps[length] = deed;
                length++;
            }
        }

        /** What stands between two is done when it is known that nothing closer comes behind. */
        private boolean readTest(Tape tape, int depth) {
            int or = NONE;
            int and = NONE;
            for (int i = 0; i < TAPE_MOST; i++) {
                if (!readFact(tape, depth)) {
                    return false;
                }
                step(and);
                if (tape.take(Tape.AND)) {
                    and = AND;
                } else {
                    step(or);
                    if (!tape.take(Tape.OR)) {
                        return true;
                    }
                    and = NONE;
                    or = OR;
                }
            }
            return false;
        }

        private boolean readFact(Tape tape, int depth) {
            boolean bracket = tape.kind() == '[';
            if (bracket || tape.kind() == Tape.NOT) {
                if (depth >= DEPTH_MOST) {
                    return tape.fail(TOO_DEEP);
                }
                tape.pass();
                return bracket ? readBracket(tape, depth + 1) : readNot(tape, depth + 1);
            }
            if (!readSum(tape)) {
                return false;
            }
            int deed = comparison(tape.kind());
            if (deed == NONE) {
                return tape.fail(CANT_STAND);
            }
            if (parts >= PARTS_MOST) {
                return tape.fail(TOO_MANY_PARTS);
            }
            parts++;
            tape.pass();
            if (!readSum(tape)) {
                return false;
            }
            step(deed);
            return true;
        }

        private boolean readBracket(Tape tape, int depth) {
            return readTest(tape, depth) && (tape.take(']') || tape.fail(CANT_STAND));
        }

        private boolean readNot(Tape tape, int depth) {
            if (!readFact(tape, depth)) {
                return false;
            }
            step(NOT);
            return true;
        }

        private static int comparison(int kind) {
            switch (kind) {
                case '<':
                    return LESS;
                case Tape.AT_MOST:
                    return AT_MOST;
                case '=':
                    return EQUAL;
                case Tape.AT_LEAST:
                    return AT_LEAST;
                case '>':
                    return MORE;
                default:
                    return NONE;
            }
        }

        /** As with a TEST: of a SUM what is closer is done first. */
        private boolean readSum(Tape tape) {
            int add = NONE;
            int times = NONE;
            for (int i = 0; i < TAPE_MOST; i++) {
                if (!readValue(tape)) {
                    return false;
                }
                step(times);
                if (tape.take('*')) {
                    times = TIMES;
                } else if (tape.take('/')) {
                    times = BY;
                } else {
                    step(add);
                    times = NONE;
                    add = tape.take('+') ? ADD : tape.take('-') ? TAKE : NONE;
                    if (add == NONE) {
                        return true;
                    }
                }
            }
            return false;
        }

        private boolean readValue(Tape tape) {
            int kind = tape.kind();
            boolean word = kind >= Tape.FIRST_WORD && kind < Tape.FIRST_WORD + WORDS;
            if (!word && kind != Tape.NUMBER && kind != Tape.LONG_NUMBER) {
                return tape.fail(CANT_STAND);
            }
            if (kind == Tape.LONG_NUMBER) {
                return tape.fail(WRONG_NUMBER);
            }
            if (parts >= PARTS_MOST) {
                return tape.fail(TOO_MANY_PARTS);
            }
            parts++;
            growing = growing || kind == Tape.OWES || kind == Tape.MOVED;
            step(word ? FIRST_WORD + kind - Tape.FIRST_WORD : tape.number());
            tape.pass();
            return true;
        }
    }

    /** A RING of PEOPLE, in the order in which each takes the PLACE of the next one. */
    private static final class Ring {
        private final int[] who = new int[RING_MOST];
        private int size = 0;

        void copyFrom(Ring other) {
            System.arraycopy(other.who, 0, who, 0, RING_MOST);
            size = other.size;
        }

        void add(int person) {
            if (size < RING_MOST) {
                who[size] = person;
                size++;
            }
        }

        boolean has(int person) {
            for (int i = 0; i < size; i++) {
                if (who[i] == person) {
                    return true;
                }
            }
            return false;
        }

        boolean meets(Ring other) {
            for (int i = 0; i < size; i++) {
                if (other.has(who[i])) {
                    return true;
                }
            }
            return false;
        }

        int after(int i) {
            return i + 1 < size ? who[i + 1] : who[0];
        }

        void shift(int[] at) {
            int first = at[who[0]];
            for (int i = 0; i + 1 < size; i++) {
                at[who[i]] = at[who[i + 1]];
            }
            if (size > 0) {
                at[who[size - 1]] = first;
            }
        }
    }

    /** What a RING changes, and what is as ahead of it when it is UNDONE. */
    private static final class Standing {
        private static final int FAR = 1000;

        private final int[] at = new int[PEOPLE_MOST];
        private final int[] moved = new int[PEOPLE_MOST];
        private final int[] owed = new int[PEOPLE_MOST * PEOPLE_MOST];
        // What each OWES in all.
        private final int[] debt = new int[PEOPLE_MOST];
        private int day = 0;
        private int rings = 0;

        void copyFrom(Standing other) {
            System.arraycopy(other.at, 0, at, 0, PEOPLE_MOST);
            System.arraycopy(other.moved, 0, moved, 0, PEOPLE_MOST);
            System.arraycopy(other.owed, 0, owed, 0, PEOPLE_MOST * PEOPLE_MOST);
            System.arraycopy(other.debt, 0, debt, 0, PEOPLE_MOST);
            day = other.day;
            rings = other.rings;
        }

        void beginAt(int[] home) {
            System.arraycopy(home, 0, at, 0, PEOPLE_MOST);
            Arrays.fill(moved, 0);
            Arrays.fill(owed, 0);
            Arrays.fill(debt, 0);
            day = 1;
            rings = 0;
        }

        void addDebt(int one, int other, int coal) {
            owed[one * PEOPLE_MOST + other] += coal;
            debt[one] += coal;
        }

        int creditOf(int person) {
            int credit = 0;
            for (int other = 0; other < PEOPLE_MOST; other++) {
                credit += owed[other * PEOPLE_MOST + person];
            }
            return credit;
        }

        int debtInAll() {
            int all = 0;
            for (int person = 0; person < PEOPLE_MOST; person++) {
                all += debt[person];
            }
            return all;
        }

        private boolean isDebt(int one, int other) {
            return owed[one * PEOPLE_MOST + other] > 0;
        }

        /** A RING that breaks no LAW is done: the coal that is OWED by it. */
        int change(Ring ring, Country land) {
            int coal = 0;
            for (int i = 0; i < ring.size; i++) {
                int one = ring.who[i];
                int other = ring.after(i);
                int more = land.weight[one] - land.weight[other];
                if (more > 0) {
                    addDebt(one, other, more);
                    coal += more;
                }
                moved[one]++;
            }
            ring.shift(at);
            rings++;
            return coal;
        }

        /** By each ring that is struck one debt is gone at least, so there are no more turns than debts. */
        int strikeRings(int people) {
            int less = 0;
            int[] steps = new int[PEOPLE_MOST];
            int[] row = new int[PEOPLE_MOST];
            for (int turn = 0; turn < PEOPLE_MOST * PEOPLE_MOST; turn++) {
                int length = findRing(people, steps, row);
                if (length < 2) {
                    return less;
                }
                less += strikeRow(row, length);
            }
            return less;
        }

        /** Leaves the first of the shortest rings of debts in the row: how many are in it, 0 without one. */
        private int findRing(int people, int[] steps, int[] row) {
            int shortest = FAR;
            int begin = 0;
            for (int least = 0; least < people; least++) {
                countSteps(people, least, steps);
                int length = ringLength(people, least, steps);
                if (length < shortest) {
                    shortest = length;
                    begin = least;
                }
            }
            if (shortest >= FAR) {
                return 0;
            }
            countSteps(people, begin, steps);
            walkRing(people, begin, steps, row, shortest);
            return shortest;
        }

        /** By how many debts one comes to a PERSON, with nobody before that PERSON on the way. */
        private void countSteps(int people, int goal, int[] steps) {
            Arrays.fill(steps, FAR);
            steps[goal] = 0;
            for (int far = 0; far + 1 < people; far++) {
                for (int one = goal + 1; one < people; one++) {
                    for (int other = goal; other < people && steps[one] == FAR; other++) {
                        if (steps[other] == far && isDebt(one, other)) {
                            steps[one] = far + 1;
                        }
                    }
                }
            }
        }

        private int ringLength(int people, int begin, int[] steps) {
            int length = FAR;
            for (int other = begin + 1; other < people; other++) {
                if (isDebt(begin, other)) {
                    length = Math.min(length, steps[other] + 1);
                }
            }
            return length;
        }

        private void walkRing(int people, int begin, int[] steps, int[] row, int length) {
            int one = begin;
            for (int i = 0; i < length && i < PEOPLE_MOST; i++) {
                row[i] = one;
                int next = begin;
                while (next + 1 < people && !(isDebt(one, next) && steps[next] == length - 1 - i)) {
                    next++;
                }
                one = next;
            }
        }

        private int strikeRow(int[] row, int length) {
            int least = owed[row[length - 1] * PEOPLE_MOST + row[0]];
            for (int i = 0; i + 1 < length; i++) {
                least = Math.min(least, owed[row[i] * PEOPLE_MOST + row[i + 1]]);
            }
            for (int i = 0; i < length; i++) {
                int other = i + 1 < length ? row[i + 1] : row[0];
                addDebt(row[i], other, -least);
            }
            return least * length;
        }
    }

    /** All that an IMAGE holds. */
    private static final class State {
        private final Country land = new Country();
        private final Standing now = new Standing();
        private final Standing[] past = new Standing[UNDO_MOST];
        private final Ring called = new Ring();
        private final Ring[] told = new Ring[BOOK_MOST];
        private final int[] foundAt = new int[PEOPLE_MOST];
        private int pastFirst = 0;
        private int pastSize = 0;
        private int bookSize = 0;
        private int inForce = NONE;
        private int x = 0;

        State() {
            for (int i = 0; i < UNDO_MOST; i++) {
                past[i] = new Standing();
            }
            for (int i = 0; i < BOOK_MOST; i++) {
                told[i] = new Ring();
            }
            Arrays.fill(foundAt, NONE);
        }

        void beginIn(Country country) {
            land.copyFrom(country);
            now.beginAt(country.home);
            called.size = 0;
            bookSize = 0;
            pastSize = 0;
            Arrays.fill(foundAt, NONE);
        }

        void copyFrom(State other) {
            land.copyFrom(other.land);
            now.copyFrom(other.now);
            for (int i = 0; i < UNDO_MOST; i++) {
                past[i].copyFrom(other.past[i]);
            }
            called.copyFrom(other.called);
            for (int i = 0; i < BOOK_MOST; i++) {
                told[i].copyFrom(other.told[i]);
            }
            System.arraycopy(other.foundAt, 0, foundAt, 0, PEOPLE_MOST);
            pastFirst = other.pastFirst;
            pastSize = other.pastSize;
            bookSize = other.bookSize;
            inForce = other.inForce;
            x = other.x;
        }

        void keepPast() {
            past[(pastFirst + pastSize) % UNDO_MOST].copyFrom(now);
            if (pastSize < UNDO_MOST) {
                pastSize++;
            } else {
                pastFirst = (pastFirst + 1) % UNDO_MOST;
            }
        }

        boolean takePast() {
            if (pastSize == 0) {
                return false;
            }
            pastSize--;
            now.copyFrom(past[(pastFirst + pastSize) % UNDO_MOST]);
            return true;
        }

        int foundPeople() {
            int people = 0;
            for (int person = 0; person < land.people; person++) {
                if (foundAt[person] != NONE) {
                    people++;
                }
            }
            return people;
        }
    }

    /**
     * LIKING and the LAWS. What was found is kept with the edition in which it
     * was found, so that nothing has to be wiped when something changes.
     */
    private static final class Laws {
        private static final int NO_ONE = 99;
        // More than the VALUES that a RULE may have.
        private static final int STACK = 64;

        private final Country land;
        private final Standing usual;
        private final int[] likings = new int[PEOPLE_MOST * PLACES_MOST * PLACES_MOST];
        private final int[] words = new int[Rule.WORDS];
        private final long[] stack = new long[STACK];
        // Dear to hold, so they are made when first asked for.
        private int[] twos = null;
        private Standing standing;
        private Rule rule = null;
        private int edition = 1;
        private boolean keeping = true;

        Laws(Country land, Standing usual) {
            this.land = land;
            this.usual = usual;
            this.standing = usual;
        }

        void renew(Rule inForce) {
            rule = inForce;
            edition++;
        }

        /** The WORDS tell debts and moves of another one, so nothing is kept that hangs on these. */
        void askOf(Standing other) {
            standing = other;
            keeping = rule == null || !rule.growing;
        }

        void askAsUsual() {
            standing = usual;
            keeping = true;
        }

        int likingOf(int who, int from, int place) {
            int key = (who * PLACES_MOST + from) * PLACES_MOST + place;
            if (keeping && likings[key] >> 11 == edition) {
                return (likings[key] & 2047) - LIKING_MOST;
            }
            long liking = land.worth[who * PLACES_MOST + place];
            if (rule != null) {
                tellWords(who, from, place, NO_ONE, 0);
            }
            for (int clause = 0; rule != null && clause < rule.clauses; clause++) {
                int test = rule.testFrom[clause];
                int end = rule.to[clause];
                if (!rule.bars[clause] && (test == end || workOut(test, end) != 0)) {
                    liking = workOut(rule.from[clause], test);
                    break;
                }
            }
            int held = (int) Math.max(-LIKING_MOST, Math.min(LIKING_MOST, liking));
            if (keeping) {
                likings[key] = (edition << 11) + held + LIKING_MOST;
            }
            return held;
        }

        boolean likesMore(int who, int from, int place) {
            return likingOf(who, from, place) > likingOf(who, from, from);
        }

        boolean content(int who, int from) {
            for (int place = 0; place < land.places; place++) {
                if (likesMore(who, from, place)) {
                    return false;
                }
            }
            return true;
        }

        int brokenByRing(Ring many, int[] places) {
            for (int i = 0; i < many.size; i++) {
                int one = many.who[i];
                int next = many.after(i);
                int law = brokenBy(one, places[one], places[next], next, many.size);
                if (law != 0) {
                    return law;
                }
            }
            return 0;
        }

        private int brokenBy(int one, int from, int place, int other, int size) {
            if (from == place) {
                return 1;
            }
            if (!land.onBench(one) && likingOf(one, from, place) <= likingOf(one, from, from)) {
                return 2;
            }
            return isBarred(one, from, place, other, size) ? 3 : 0;
        }

        /** Whether a RING of two can be, with these two at these PLACES. */
        boolean canChange(int one, int other, int oneAt, int otherAt) {
            if (twos == null) {
                twos = new int[PEOPLE_MOST * PEOPLE_MOST * PLACES_MOST * PLACES_MOST];
            }
            int key = ((one * PEOPLE_MOST + other) * PLACES_MOST + oneAt) * PLACES_MOST + otherAt;
            if (keeping && twos[key] >> 1 == edition) {
                return (twos[key] & 1) != 0;
            }
            boolean can = brokenBy(one, oneAt, otherAt, other, 2) == 0
                    && brokenBy(other, otherAt, oneAt, one, 2) == 0;
            if (keeping) {
                twos[key] = (edition << 1) + (can ? 1 : 0);
            }
            return can;
        }

        boolean isBarred(int who, int from, int place, int other, int size) {
            if (rule == null) {
                return false;
            }
            tellWords(who, from, place, other, size);
            for (int clause = 0; clause < rule.clauses; clause++) {
                if (rule.bars[clause] && workOut(rule.testFrom[clause], rule.to[clause]) != 0) {
                    return true;
                }
            }
            return false;
        }

        /** In the order in which the WORDS are numbered. */
        private void tellWords(int who, int from, int place, int other, int size) {
            words[0] = who;
            words[1] = land.weight[who];
            words[2] = land.home[who];
            words[3] = from;
            words[4] = place;
            words[5] = land.worth[who * PLACES_MOST + place];
            words[6] = other;
            words[7] = other < PEOPLE_MOST ? land.weight[other] : 0;
            words[8] = size;
            words[9] = standing.debt[who];
            words[10] = standing.day;
            words[11] = standing.moved[who];
        }

        private long workOut(int from, int end) {
            int top = 0;
            for (int i = from; i < end; i++) {
                int step = rule.steps[i];
                if (step < Rule.FIRST_DEED) {
                    if (top >= STACK) {
                        return 0;
                    }
                    stack[top] = step < Rule.FIRST_WORD ? step : words[step - Rule.FIRST_WORD];
                    top++;
                } else if (step == Rule.NOT) {
                    if (top < 1) {
                        return 0;
                    }
                    stack[top - 1] = 1 - stack[top - 1];
                } else {
                    if (top < 2) {
                        return 0;
                    }
                    top--;
                    stack[top - 1] = joined(step, stack[top - 1], stack[top]);
                }
            }
            return stack[0];
        }

        private static long joined(int deed, long one, long other) {
            switch (deed) {
                case Rule.ADD:
                    return one + other;
                case Rule.TAKE:
                    return one - other;
                case Rule.TIMES:
                    return one * other;
                case Rule.BY:
                    return other == 0 ? 0 : one / other;
                case Rule.LESS:
                    return one < other ? 1 : 0;
                case Rule.AT_MOST:
                    return one <= other ? 1 : 0;
                case Rule.EQUAL:
                    return one == other ? 1 : 0;
                case Rule.AT_LEAST:
                    return one >= other ? 1 : 0;
                case Rule.MORE:
                    return one > other ? 1 : 0;
                case Rule.AND:
                    return one & other;
                default:
                    return one | other;
            }
        }
    }

    /**
     * SITUATIONS in the order in which they come, by RINGS of two; three bits
     * tell where a PERSON is. It grows as far as it is asked, and by one beyond
     * those that are counted, since a goal is not.
     */
    private static final class Search {
        private static final int ROOM = SITUATIONS_MOST + 1;
        private static final int SLOTS = 4096;

        private final Laws laws;
        private final int[] situation = new int[ROOM];
        private final int[] depth = new int[ROOM];
        private final int[] cameFrom = new int[ROOM];
        private final int[] cameBy = new int[ROOM];
        private final int[] ways = new int[ROOM];
        private final int[] slots = new int[SLOTS];
        private int size = 0;
        private int grown = 0;
        private int edition = 0;

        Search(Laws laws) {
            this.laws = laws;
        }

        void begin(int[] at) {
            int first = 0;
            for (int person = 0; person < laws.land.people; person++) {
                first |= at[person] << 3 * person;
            }
            Arrays.fill(slots, 0);
            edition = laws.edition;
            grown = 0;
            size = 0;
            add(first, 0, 0);
            depth[0] = 0;
            ways[0] = 1;
        }

        boolean full() {
            return size >= ROOM;
        }

        private static int placeIn(int where, int person) {
            return where >> 3 * person & 7;
        }

        private int slotOf(int where) {
            int slot = (where * 0x9E3779B1) >>> 20;
            for (int tries = 0; tries < SLOTS; tries++) {
                int held = slots[slot];
                if (held == 0 || situation[held - 1] == where) {
                    return slot;
                }
                slot = (slot + 1) & (SLOTS - 1);
            }
            return slot;
        }

        private void add(int where, int from, int pair) {
            int slot = slotOf(where);
            int held = slots[slot];
            if (held != 0) {
                if (depth[held - 1] == depth[from] + 1) {
                    ways[held - 1] = Math.min(2, ways[held - 1] + ways[from]);
                }
                return;
            }
            if (full()) {
                return;
            }
            situation[size] = where;
            depth[size] = depth[from] + 1;
            cameFrom[size] = from;
            cameBy[size] = pair;
            ways[size] = ways[from];
            size++;
            slots[slot] = size;
        }

        /** All that come from the next one are added; false if there is none, or no room. */
        private boolean grow() {
            if (grown >= size || full()) {
                return false;
            }
            int where = situation[grown];
            for (int i = 0; i < laws.land.people; i++) {
                int one = placeIn(where, i);
                for (int j = i + 1; j < laws.land.people; j++) {
                    int other = placeIn(where, j);
                    if (one != other && laws.canChange(i, j, one, other)) {
                        int swap = one ^ other;
                        add(where ^ swap << 3 * i ^ swap << 3 * j, grown, i * PEOPLE_MOST + j);
                    }
                }
            }
            grown++;
            return true;
        }

        void growAll() {
            for (int i = 0; i < ROOM; i++) {
                if (!grow()) {
                    return;
                }
            }
        }

        /** Whether all SITUATIONS with so few RINGS are here, and no more of them than are counted. */
        boolean growThrough(int fewest) {
            for (int i = 0; i < ROOM && grown < size && depth[grown] < fewest; i++) {
                if (!grow()) {
                    break;
                }
            }
            return !full() || depth[ROOM - 1] > fewest;
        }

        private boolean allFound(int which, int[] foundAt) {
            for (int person = 0; person < laws.land.people; person++) {
                int place = foundAt[person];
                if (place != NONE && placeIn(situation[which], person) != place) {
                    return false;
                }
            }
            return true;
        }

        /** The first SITUATION in which all are where they are told to be (NONE: anywhere). */
        int firstOf(int[] foundAt) {
            for (int which = 0; which < ROOM; which++) {
                for (int i = 0; i < ROOM && which >= size; i++) {
                    if (!grow()) {
                        return NEVER;
                    }
                }
                if (allFound(which, foundAt)) {
                    return which;
                }
            }
            return UNKNOWN;
        }

        int countOf(int[] foundAt, int rings) {
            int count = 0;
            for (int which = 0; which < size; which++) {
                if (depth[which] == rings && allFound(which, foundAt)) {
                    count++;
                }
            }
            return count;
        }

        int placesOf(int person) {
            int places = 0;
            for (int which = 0; which < size; which++) {
                places |= 1 << placeIn(situation[which], person);
            }
            return places;
        }

        int ringOnWay(int which, int k) {
            int step = which;
            for (int i = depth[which] - 1; i > k; i--) {
                step = cameFrom[step];
            }
            return cameBy[step];
        }
    }

    /** How all come by RINGS at once to where they LIKE it: whose PLACE each takes. */
    private abstract static class Way {
        final Laws laws;
        final Standing now;
        final int[] takes = new int[PEOPLE_MOST];
        private final int[] said = new int[PEOPLE_MOST * PLACES_MOST];
        private final int[] lie = new int[PEOPLE_MOST];
        private final int[] lieEdition = new int[PEOPLE_MOST];

        Way(Laws laws, Standing now) {
            this.laws = laws;
            this.now = now;
        }

        /** With RINGS of at most so many, where that is asked. */
        abstract void settle(int[] likes, int longest);

        int comesTo(int person) {
            return now.at[takes[person]];
        }

        private boolean wouldLike(int[] likes, int one, int other) {
            int row = one * PLACES_MOST;
            return likes[row + comesTo(other)] > likes[row + comesTo(one)];
        }

        int blockingTwos(int[] likes) {
            int twos = 0;
            for (int i = 0; i < laws.land.people; i++) {
                for (int j = i + 1; j < laws.land.people; j++) {
                    if (wouldLike(likes, i, j) && wouldLike(likes, j, i)) {
                        twos++;
                    }
                }
            }
            return twos;
        }

        /** The first PLACE by which a PERSON gains, if they say to LIKE it alone. */
        int lieOf(int person, int[] likes) {
            if (lieEdition[person] == laws.edition) {
                return lie[person];
            }
            lieEdition[person] = laws.edition;
            lie[person] = NEVER;
            int row = person * PLACES_MOST;
            settle(likes, 2);
            int honest = likes[row + comesTo(person)];
            System.arraycopy(likes, 0, said, 0, said.length);
            for (int place = 0; place < laws.land.places && lie[person] == NEVER; place++) {
                for (int other = 0; other < laws.land.places; other++) {
                    said[row + other] = other == place ? LIKING_MOST : 0;
                }
                settle(said, 2);
                if (likes[row + comesTo(person)] > honest) {
                    lie[person] = place;
                }
            }
            return lie[person];
        }
    }

    /** By pointing, round by round. */
    private static final class Core extends Way {
        private final int[] points = new int[PEOPLE_MOST];

        Core(Laws laws, Standing now) {
            super(laws, now);
        }

        void settle(int[] likes, int longest) {
            int people = laws.land.people;
            int left = (1 << people) - 1;
            for (int round = 0; round < people && left != 0; round++) {
                for (int person = 0; person < people; person++) {
                    if ((left >> person & 1) != 0) {
                        points[person] = pointsAt(person, left, likes);
                    }
                }
                int gone = 0;
                for (int person = 0; person < people; person++) {
                    if ((left >> person & 1) != 0 && comesBack(person)) {
                        takes[person] = points[person];
                        gone |= 1 << person;
                    }
                }
                left &= ~gone;
            }
        }

        /** Who comes first stays pointed at, so of one PLACE it is the least PERSON. */
        private int pointsAt(int person, int left, int[] likes) {
            int row = person * PLACES_MOST;
            int best = person;
            for (int other = 0; other < laws.land.people; other++) {
                if ((left >> other & 1) != 0) {
                    int place = now.at[other];
                    int more = likes[row + place] - likes[row + now.at[best]];
                    if (more > 0 || (more == 0 && best != person && place < now.at[best])) {
                        best = other;
                    }
                }
            }
            return best;
        }

        private boolean comesBack(int person) {
            int one = points[person];
            for (int step = 0; step < laws.land.people && one != person; step++) {
                one = points[one];
            }
            return one == person;
        }
    }

    /**
     * The RINGS by which most is gained. One number, the score, tells a set of
     * RINGS: 16 * what is gained, less one for each who changes.
     */
    private static final class Most extends Way {
        private static final int SIZES = 5;
        private static final int SETS = 1 << PEOPLE_MOST;
        private static final int NO_RING = -1000000;

        // By size and PERSON: whose PLACE they may take, as bits; by the bars alone, and by all LAWS.
        private final int[] unbarred = new int[SIZES * PEOPLE_MOST];
        private final int[] unbarredEdition = new int[SIZES];
        private final int[] open = new int[SIZES * PEOPLE_MOST];
        private final int[] gain = new int[PEOPLE_MOST * PEOPLE_MOST];
        private final int[] ringScore = new int[SETS];
        private final int[] rings = new int[SETS];
        private final int[] firstRing = new int[PEOPLE_MOST + 1];
        private final int[] best = new int[SETS];
        private final int[] row = new int[SIZES];
        private int ringCount = 0;
        // Who is in any RING; all others stay.
        private int active = 0;
        private int upTo = 0;
        private int settledEdition = 0;

        Most(Laws laws, Standing now) {
            super(laws, now);
            Arrays.fill(ringScore, NO_RING);
        }

        void settleOnce(int k, int[] likes) {
            if (settledEdition != laws.edition || upTo != k) {
                settle(likes, k);
                settledEdition = laws.edition;
            }
        }

        int gained() {
            int sum = 0;
            for (int person = 0; person < laws.land.people; person++) {
                sum += gain[person * PEOPLE_MOST + takes[person]];
            }
            return sum;
        }

        int changing() {
            int people = 0;
            for (int person = 0; person < laws.land.people; person++) {
                if (takes[person] != person) {
                    people++;
                }
            }
            return people;
        }

        void settle(int[] likes, int longest) {
            // What is settled may be a lie's; who asks for the truth says so behind it.
            settledEdition = 0;
            upTo = Math.max(2, Math.min(SIZES - 1, longest));
            countGains(likes);
            for (int size = 2; size <= upTo; size++) {
                findUnbarred(size);
                findOpen(size);
            }
            findRings();
            findBest();
            choose();
        }

        private void countGains(int[] likes) {
            for (int one = 0; one < laws.land.people; one++) {
                int here = likes[one * PLACES_MOST + now.at[one]];
                for (int other = 0; other < laws.land.people; other++) {
                    int there = likes[one * PLACES_MOST + now.at[other]];
                    gain[one * PEOPLE_MOST + other] = there - here;
                }
            }
        }

        private void findUnbarred(int size) {
            if (unbarredEdition[size] == laws.edition) {
                return;
            }
            unbarredEdition[size] = laws.edition;
            int people = laws.land.people;
            for (int one = 0; one < people; one++) {
                int who = 0;
                for (int other = 0; other < people; other++) {
                    int from = now.at[one];
                    int to = now.at[other];
                    if (from != to && !laws.isBarred(one, from, to, other, size)) {
                        who |= 1 << other;
                    }
                }
                unbarred[size * PEOPLE_MOST + one] = who;
            }
        }

        private void findOpen(int size) {
            int people = laws.land.people;
            for (int one = 0; one < people; one++) {
                int would = 0;
                for (int other = 0; other < people; other++) {
                    if (laws.land.onBench(one) || gain[one * PEOPLE_MOST + other] > 0) {
                        would |= 1 << other;
                    }
                }
                open[size * PEOPLE_MOST + one] = would & unbarred[size * PEOPLE_MOST + one];
            }
        }

        private boolean isOpen(int size, int one, int other) {
            return (open[size * PEOPLE_MOST + one] >> other & 1) != 0;
        }

        private void findRings() {
            for (int i = 0; i < ringCount; i++) {
                ringScore[rings[i]] = NO_RING;
            }
            ringCount = 0;
            active = 0;
            for (int least = 0; least < laws.land.people; least++) {
                firstRing[least] = ringCount;
                row[0] = least;
                for (int size = 2; size <= upTo; size++) {
                    extend(size, 1, 1 << least, 0);
                }
            }
            firstRing[laws.land.people] = ringCount;
        }

        /** Goes no deeper than the size of a RING. */
        private void extend(int size, int depth, int set, int sum) {
            int last = row[depth - 1];
            if (depth >= size) {
                if (isOpen(size, last, row[0])) {
                    note(set, (sum + gain[last * PEOPLE_MOST + row[0]]) * 16 - size);
                }
                return;
            }
            for (int next = row[0] + 1; next < laws.land.people; next++) {
                if ((set >> next & 1) == 0 && isOpen(size, last, next)) {
                    row[depth] = next;
                    extend(size, depth + 1, set | 1 << next, sum + gain[last * PEOPLE_MOST + next]);
                }
            }
        }

        private void note(int set, int score) {
            if (ringScore[set] == NO_RING && ringCount < SETS) {
                rings[ringCount] = set;
                ringCount++;
                active |= set;
            }
            ringScore[set] = Math.max(ringScore[set], score);
        }

        /** Of those who are left the least goes first, so a set is met with its least one and any of the others. */
        private void findBest() {
            best[0] = 0;
            for (int least = laws.land.people - 1; least >= 0; least--) {
                if ((active >> least & 1) != 0) {
                    int rest = active >> least + 1 << least + 1;
                    // The least of all is met with all others alone.
                    boolean whole = rest == (active & ~(1 << least));
                    int others = rest;
                    for (int met = 0; met < SETS; met++) {
                        best[others | 1 << least] = bestOf(others | 1 << least, least);
                        if (whole || others == 0) {
                            break;
                        }
                        others = (others - 1) & rest;
                    }
                }
            }
        }

        private int bestOf(int set, int least) {
            int score = best[set ^ 1 << least];
            for (int i = firstRing[least]; i < firstRing[least + 1]; i++) {
                int ring = rings[i];
                if ((ring & ~set) == 0) {
                    score = Math.max(score, ringScore[ring] + best[set ^ ring]);
                }
            }
            return score;
        }

        private void choose() {
            for (int person = 0; person < laws.land.people; person++) {
                takes[person] = person;
            }
            int left = active;
            for (int person = 0; person < laws.land.people; person++) {
                if ((left >> person & 1) == 0) {
                    continue;
                }
                int set = 1 << person;
                if (best[left ^ set] != best[left]) {
                    row[0] = person;
                    set |= firstBest(1, set, left);
                }
                left &= ~set;
            }
        }

        /** The first row by which what is left comes to its best: its PEOPLE, who take their PLACES; else 0. */
        private int firstBest(int depth, int set, int left) {
            for (int next = row[0] + 1; next < laws.land.people; next++) {
                if ((left >> next & 1) == 0 || (set >> next & 1) != 0) {
                    continue;
                }
                row[depth] = next;
                int wider = set | 1 << next;
                if (rowScore(depth + 1, wider) == best[left] - best[left & ~wider]) {
                    takeRow(depth + 1);
                    return wider;
                }
                if (depth + 1 < upTo) {
                    int chosen = firstBest(depth + 1, wider, left);
                    if (chosen != 0) {
                        return chosen;
                    }
                }
            }
            return 0;
        }

        private int rowScore(int size, int set) {
            if (ringScore[set] == NO_RING) {
                return NO_RING;
            }
            int sum = 0;
            for (int i = 0; i < size; i++) {
                int next = i + 1 < size ? row[i + 1] : row[0];
                if (!isOpen(size, row[i], next)) {
                    return NO_RING;
                }
                sum += gain[row[i] * PEOPLE_MOST + next];
            }
            return sum * 16 - size;
        }

        private void takeRow(int size) {
            for (int i = 0; i < size; i++) {
                takes[row[i]] = i + 1 < size ? row[i + 1] : row[0];
            }
        }
    }
}
