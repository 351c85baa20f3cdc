import java.lang.management.ManagementFactory;
import java.util.Random;

/**
 * Calls with any numbers in any state: none throws, none answers what the document has no word for, and what
 * they make fits the room that all calls of a run share.
 */
public final class AnyCallTest extends Edges {
    private static final int[] NUMBERS = {FAR_BELOW, FAR_BELOW + 1, -65536, -1000, -100, -3, -2, -1, 0, 1, 2, 3, 4, 5, 6, 7,
        8, 9, 10, 11, 12, 13, 14, 20, 21, 99, 100, 200, 201, 255, 256, 400, 401, 9999, 65536, FAR_ABOVE - 1, FAR_ABOVE};
    private static final String[] COUNTRIES = {"places 2", "places 8;person 7 99", "places 2;person 0 1;person 1 99;bench 0;call 1",
        "places 4;person 0 10;person 1 6;person 2 8;person 1 50;wish 0 1 9;wish 1 2 5;wish 2 0 7;wish 1 0 3;call 2",
        people(10, ";bench 9;bench 0;wish 3 4 99;wish 4 3 99;call 7;call 0"), people(7, ""), "places 3;person 3 1", "places"};
    private static final String[] RULES = {RESTLESS, "want to*to-person*to", "bar owes>3;" + RESTLESS,
        "want 65536*65536*65536*32768/day if moved>1;want 0-to", "bar with=ring or other/moved>2;want wish*9-owes", "want", ""};

    private final Random random;
    private final ChangePlaces x = new ChangePlaces();

    private AnyCallTest(long seed) {
        random = new Random(seed);
    }

    public static void main(String[] args) {
        sentence("calls with any numbers");
        for (int seed = 0; seed < 300; seed++) {
            AnyCallTest test = new AnyCallTest(seed);
            for (int i = 0; i < 500; i++) {
                int call = test.random.nextInt(44);
                int answer = test.one(call);
                due("call " + call + ", " + answer + " is below all answers", answer < least(call), false);
            }
        }
        sentence("what the calls of a run make fits the room");
        roomOfMany();
        finish();
    }

    private static int least(int call) {
        switch (call) {
            case 0:
            case 1:
                return -3203;
            case 2:
                return -1000;
            case 3:
                return -5;
            default:
                return -3;
        }
    }

    private int n() {
        return random.nextInt(3) == 0 ? NUMBERS[random.nextInt(NUMBERS.length)] : random.nextInt(8) - 1;
    }

    private int one(int call) {
        switch (call) {
            case 0:
                if (random.nextInt(3) > 0) {
                    say(x, COUNTRIES[random.nextInt(COUNTRIES.length)]);
                }
                return random.nextInt(4) == 0 || x.count(0) == 0 ? x.country() : 0;
            case 1:
                if (random.nextInt(3) > 0) {
                    say(x, RULES[random.nextInt(RULES.length)]);
                }
                return x.rule();
            case 2:
                return x.liking(n(), n());
            case 3:
                return x.go();
            default:
                return call < 24 ? byHand(call) : asked(call);
        }
    }

    private int byHand(int call) {
        switch (call) {
            case 4:
                return x.feed(random.nextInt(), n(), random.nextInt(), n(), n());
            case 5:
                return x.end(n());
            case 6:
                return x.force(n());
            case 7:
                return x.person(n(), n());
            case 8:
                return x.wish(n(), n());
            case 9:
                return x.desire(n(), n(), n());
            case 10:
                return x.place(n(), n());
            case 11:
            case 12:
            case 13:
                return x.call(n());
            case 14:
                return x.may();
            case 15:
                return x.undo();
            case 16:
                return x.owes(n(), n());
            case 17:
                return x.pay(n(), n(), n());
            case 18:
                return x.strike();
            case 19:
                return x.dawn();
            case 20:
                return x.book();
            case 21:
                return x.burn();
            case 22:
                return x.image(n());
            default:
                return x.back(n());
        }
    }

    private int asked(int call) {
        switch (call) {
            case 24:
                return x.judged(n());
            case 25:
                return x.then(n());
            case 26:
                return x.laidOut(n());
            case 27:
                return x.changers(n(), n());
            case 28:
                return x.most(n(), n());
            case 29:
                return x.mostOf(n(), n());
            case 30:
                return x.core(n());
            case 31:
                return x.blocks(n());
            case 32:
                return x.journey(n(), n());
            case 33:
                return x.row(n(), n(), n(), n());
            case 34:
                return x.reached(n());
            case 35:
                return x.found(n(), n()) ? 1 : 0;
            case 36:
                return x.done(n());
            case 37:
                return x.doctors(n());
            case 38:
                return x.served(n());
            case 39:
                return x.liars(n());
            case 40:
                return x.lie(n(), n());
            case 41:
                return x.seed(n());
            case 42:
                return x.years(n(), n(), n());
            default:
                return x.count(n());
        }
    }

    /** An object with all that is dear to hold, and all 512 calls such as might make something. */
    private static void roomOfMany() {
        com.sun.management.ThreadMXBean threads = (com.sun.management.ThreadMXBean) ManagementFactory.getThreadMXBean();
        long self = Thread.currentThread().getId();
        roomOfOne();
        long before = threads.getThreadAllocatedBytes(self);
        roomOfOne();
        long bytes = threads.getThreadAllocatedBytes(self) - before;
        // 7.3 million elements are 29 million bytes at least.
        due("a run makes " + bytes + " bytes, too many", bytes > 4000000, false);
    }

    private static void roomOfOne() {
        ChangePlaces x = land(people(10, ""), RESTLESS);
        for (int i = 0; i < 5; i++) {
            tellRule(x, "want to" + "+1".repeat(56) + ";bar person=9");
        }
        for (int i = 0; i < 28; i++) {
            x.image(i % 4);
            x.desire(i % 10, i % 8, i);
            x.reached(NONE);
            x.done(0);
            x.liars(0);
            x.liars(1);
            x.most(4, 0);
            x.blocks(4);
            x.years(20, 20, 0);
            x.strike();
            x.doctors(4);
            x.call(i % 10);
            x.call((i + 1) % 10);
            x.go();
            x.back(i % 4);
        }
    }
}
