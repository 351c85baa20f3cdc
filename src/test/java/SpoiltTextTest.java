import java.util.Random;

/** Texts spoilt in all places, and rows of words and signs drawn at random: their FAULTS are as with Plain. */
public final class SpoiltTextTest extends Edges {
    private static final String[] SOUND = {
        "places 3;person 0 10;person 1 6;wish 0 1 9; bench 1;call 2",
        "want 20 if to = 2;want 0 - 5;bar with = 1",
        "bar not [day<=3 or [at>=to and not weight*2/3<other+12345]]; want wish if moved>0",
        "places8", "want person if not not [1=1]"};
    private static final String[] PIECES = {"places", "person", "wish", "bench", "call", "bar", "want", "if", "or", "and",
        "not", "[", "]", "<", "<=", "=", ">=", ">", "+", "-", "*", "/", ";", "0", "1", "2", "7", "8", "9", "99", "100",
        "99999", "100000", "weight", "home", "at", "to", "with", "other", "ring", "owes", "day", "moved", "x", "< =",
        "[[[[[[[[[[", "not not not not not ", "1+1+1+1+1+1+1+1+1+1+1", ";bench 0;bench 0;bench 0;bench 0"};

    private SpoiltTextTest() {
    }

    public static void main(String[] args) {
        sentence("FAULTS, the first along the text; of one place the least");
        for (String text : SOUND) {
            spoil(text);
        }
        Random random = new Random(14);
        for (int i = 0; i < 30000; i++) {
            drawn(random);
        }
        finish();
    }

    private static void spoil(String text) {
        for (int i = 0; i <= text.length(); i++) {
            String ahead = text.substring(0, i);
            String behind = text.substring(i);
            String left = behind.isEmpty() ? "" : behind.substring(1);
            both(ahead);
            both(ahead + left);
            for (int sign = 0; sign < 256; sign++) {
                both(ahead + (char) sign + behind);
                both(ahead + (char) sign + left);
            }
            for (String piece : PIECES) {
                both(ahead + piece + behind);
                both(ahead + ' ' + piece + ' ' + behind);
            }
        }
    }

    private static void drawn(Random random) {
        String[] begins = {"", "places 2", "places 2;person 0 1", "bar ", "want ", "want 1 if "};
        StringBuilder b = new StringBuilder(begins[random.nextInt(begins.length)]);
        for (int i = random.nextInt(16); i > 0 && b.length() < 360; i--) {
            b.append(" ".repeat(random.nextInt(2))).append(PIECES[random.nextInt(PIECES.length)]);
        }
        both(b.toString());
    }

    private static void both(String text) {
        ChangePlaces x = new ChangePlaces();
        Plain plain = new Plain();
        say(x, text);
        plain.tape = text;
        due("country of '" + text + "'", x.country(), plain.country());
        say(x, text);
        plain.tape = text;
        due("rule of '" + text + "'", x.rule(), plain.rule());
    }
}
