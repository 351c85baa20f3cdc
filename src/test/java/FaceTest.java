import java.lang.reflect.*;
import java.nio.file.*;
import java.util.*;

/** The public face, and those rules of LANGUAGE.md that a text or the class itself can show. */
public final class FaceTest {
    private static final String FACE = "feed(int,int,int,int,int) end(int) country() rule() force(int) person(int,int) "
            + "wish(int,int) liking(int,int) desire(int,int,int) place(int,int) call(int) may() go() undo() "
            + "owes(int,int) pay(int,int,int) strike() dawn() book() burn() judged(int) then(int) laidOut(int) "
            + "changers(int,int) most(int,int) mostOf(int,int) core(int) blocks(int) journey(int,int) "
            + "row(int,int,int,int) reached(int) found(int,int) done(int) doctors(int) served(int) liars(int) "
            + "lie(int,int) seed(int) years(int,int,int) count(int) image(int) back(int)";
    private static int wrong = 0;

    private static void due(boolean right, String what) {
        if (!right) {
            wrong++;
            System.out.println(what);
        }
    }

    public static void main(String[] args) throws Exception {
        Class<?> c = ChangePlaces.class;
        due(c.getModifiers() == (Modifier.PUBLIC | Modifier.FINAL), "the class is not public and final");
        Set<String> face = new TreeSet<>(List.of(FACE.split(" ")));
        Set<String> names = new TreeSet<>();
        for (String call : face) names.add(call.substring(0, call.indexOf('(')));
        Set<String> seen = new TreeSet<>();
        for (Method m : c.getDeclaredMethods()) {
            StringJoiner types = new StringJoiner(",", m.getName() + "(", ")");
            for (Class<?> t : m.getParameterTypes()) types.add(t.getName());
            if (Modifier.isPublic(m.getModifiers())) {
                seen.add(types.toString());
                boolean yes = m.getName().equals("found");
                due(m.getReturnType() == (yes ? boolean.class : int.class), m + " answers another type");
            } else {
                due(Modifier.isPrivate(m.getModifiers()), m + " is not private");
                due(!names.contains(m.getName()), m + " has a name of the face");
            }
        }
        due(seen.equals(face), "the face is " + seen);
        for (Field f : c.getDeclaredFields()) {
            boolean none = f.getName().equals("NONE") && Modifier.isPublic(f.getModifiers());
            due(none || Modifier.isPrivate(f.getModifiers()), f + " is not private");
        }
        due(c.getDeclaredConstructors().length == 1, "there are more constructors");
        due(ChangePlaces.NONE == -1, "NONE is not -1");
        due(c.getDeclaredClasses().length <= 12, "too many classes");
        for (Class<?> inner : c.getDeclaredClasses()) {
            due(Modifier.isStatic(inner.getModifiers()), inner + " is not static");
            for (Method m : inner.getDeclaredMethods()) {
                due(!names.contains(m.getName()) || !Modifier.isPrivate(m.getModifiers()), m + " has a name of the face");
                due(m.getParameterCount() <= 7, m + " takes too much");
            }
            int fields = 0;
            for (Field f : inner.getDeclaredFields()) {
                if (Modifier.isStatic(f.getModifiers())) due(Modifier.isFinal(f.getModifiers()), f + " is not final");
                else fields++;
            }
            due(fields <= 20, inner + " has " + fields + " fields");
        }
        text();
        library();
        if (wrong > 0) System.exit(1);
    }

    /** What the compiled class asks of the library, and whether it could join texts, throw or catch. */
    private static void library() {
        Set<String> allowed = Set.of("Object.\"<init>\"", "String.length", "String.charAt", "Math.max", "Math.min",
                "Integer.bitCount", "System.arraycopy", "Arrays.fill");
        Path classes = Path.of(ChangePlaces.class.getProtectionDomain().getCodeSource().getLocation().getPath());
        List<String> files = new ArrayList<>(List.of(classes.resolve("ChangePlaces.class").toString()));
        for (Class<?> inner : ChangePlaces.class.getDeclaredClasses()) {
            files.add(classes.resolve(inner.getName() + ".class").toString());
        }
        java.io.StringWriter shown = new java.io.StringWriter();
        List<String> asked = new ArrayList<>(List.of("-c", "-p"));
        asked.addAll(files);
        java.io.PrintWriter out = new java.io.PrintWriter(shown);
        java.util.spi.ToolProvider.findFirst("javap").orElseThrow().run(out, out, asked.toArray(new String[0]));
        int steps = 0;
        for (String line : shown.toString().split("\n")) {
            if (!line.matches("\\s+\\d+: .*")) continue;
            steps++;
            due(!line.matches(".*: (athrow|invokedynamic|checkcast|monitorenter|[dfl]rem|lookupswitch.*String).*"), line);
            java.util.regex.Matcher use = java.util.regex.Pattern.compile("// (?:Interface)?(?:Method|Field) java/(?:\\w+/)+([\\w.\"<>]+):").matcher(line);
            if (use.find()) due(allowed.contains(use.group(1)), line);
        }
        due(steps > 3000, "only " + steps + " steps were seen");
        due(!shown.toString().contains("Exception table"), "the class catches something");
    }

    private static void text() throws Exception {
        String source = Files.readString(Path.of("src/main/java/ChangePlaces.java"));
        String code = source.replaceAll("(?s)/\\*.*?\\*/", "").replaceAll("//[^\n]*", "");
        for (String word : List.of("throw", "throws", "try", "catch", "synchronized", "assert", "package",
                "System.out", "Random", "Thread", "->", "::", "@", "MAX_VALUE", "MIN_VALUE")) {
            boolean there = Character.isLetter(word.charAt(0))
                    ? code.matches("(?s).*\\b" + word.replace(".", "\\.") + "\\b.*") : code.contains(word);
            due(!there, "the class has " + word);
        }
        due(!code.contains("Exact("), "the class calls an ..Exact");
        due(!code.matches("(?s).*(\"\\s*\\+|\\+\\s*\").*"), "the class joins texts by +");
        for (int i = 0; i < source.length(); i++) due(source.charAt(i) < 128, "the class has a strange sign");
        for (String line : code.split("\n")) {
            if (line.startsWith("import")) due(line.equals("import java.util.Arrays;"), line);
        }
    }
}
