import java.util.*;

/**
 * The document again, in the plainest words and by brute force: AgainstPlainTest
 * compares the program with it. It throws, it makes objects freely, it is slow.
 */
final class Plain {
    static final int NONE = -1;

    static final class Fault extends RuntimeException {
        final int number;
        Fault(int place, int kind) {
            super(null, null, false, false);
            number = 1 + 8 * place + kind;
        }
    }

    /** What the WORDS of a RULE tell. */
    static final class Ask {
        final Map<String, Long> words = new HashMap<>();
    }

    interface Sum { long of(Ask ask); }
    interface Test { boolean of(Ask ask); }
    record Clause(boolean bar, Sum sum, Test test) { }

    static final class Person {
        int home, at, weight, moved;
        boolean bench;
        int[] worth = new int[8];
        Person copy() {
            Person p = new Person();
            p.home = home; p.at = at; p.weight = weight; p.moved = moved; p.bench = bench;
            p.worth = worth.clone();
            return p;
        }
    }

    static final class World {
        int places, day, rings, force = NONE, x;
        List<Person> people = new ArrayList<>();
        List<Integer> calls = new ArrayList<>();
        int[][] owed = new int[10][10];
        List<Integer> called = new ArrayList<>();
        List<List<Integer>> book = new ArrayList<>();
        Map<Integer, Integer> found = new TreeMap<>();
        List<World> past = new ArrayList<>();
        World copy() {
            World w = bare();
            for (World p : past) w.past.add(p.bare());
            return w;
        }
        World bare() {
            World w = new World();
            w.places = places; w.day = day; w.rings = rings; w.force = force; w.x = x;
            for (Person p : people) w.people.add(p.copy());
            w.calls.addAll(calls);
            for (int i = 0; i < 10; i++) w.owed[i] = owed[i].clone();
            w.called.addAll(called);
            for (List<Integer> r : book) w.book.add(new ArrayList<>(r));
            w.found.putAll(found);
            return w;
        }
        int owes(int p) { int s = 0; for (int v : owed[p]) s += v; return s; }
        List<Integer> spots() { List<Integer> l = new ArrayList<>(); for (Person p : people) l.add(p.at); return l; }
        List<Integer> homes() { List<Integer> l = new ArrayList<>(); for (Person p : people) l.add(p.home); return l; }
    }

    String tape = "";
    World w = new World();
    final List<List<Clause>> rules = new ArrayList<>();
    final World[] images = new World[4];

    // ---------------------------------------------------------------- texts

    static final class Reader {
        final String s;
        int i = 0;
        int parts = 0;
        Reader(String s) { this.s = s; }
        void blanks() { while (i < s.length() && s.charAt(i) == ' ') i++; }
        char look() { blanks(); return i < s.length() ? s.charAt(i) : '\uffff'; }
        boolean end() { return look() == '\uffff'; }
        String word() {
            blanks();
            int j = i;
            while (j < s.length() && s.charAt(j) >= 'a' && s.charAt(j) <= 'z') j++;
            return s.substring(i, j);
        }
        boolean eat(String word) {
            if (!word().equals(word)) return false;
            i += word.length();
            return true;
        }
        boolean sign(char c) { if (look() != c) return false; i++; return true; }
        int number(int least, int most) {
            blanks();
            int j = i;
            while (j < s.length() && s.charAt(j) >= '0' && s.charAt(j) <= '9') j++;
            if (j == i) throw new Fault(i, 0);
            if (j - i > 5) throw new Fault(i, 1);
            int n = Integer.parseInt(s.substring(i, j));
            if (n < least || n > most) throw new Fault(i, 1);
            i = j;
            return n;
        }
    }

    static World readCountry(String text) {
        Reader r = new Reader(text);
        World w = new World();
        int n = 0;
        do {
            r.blanks();
            int from = r.i;
            String word = r.word();
            if (!List.of("places", "person", "wish", "bench", "call").contains(word)) throw new Fault(from, 0);
            n++;
            if (n > 48 || (n == 1) != word.equals("places")) throw new Fault(from, 4);
            if (word.equals("person") && w.people.size() == 10) throw new Fault(from, 4);
            if (word.equals("call") && w.calls.size() == 8) throw new Fault(from, 4);
            r.i += word.length();
            int told = w.people.size() - 1;
            switch (word) {
                case "places" -> w.places = r.number(2, 8);
                case "person" -> {
                    Person p = new Person();
                    p.home = p.at = r.number(0, w.places - 1);
                    p.weight = r.number(1, 99);
                    w.people.add(p);
                }
                case "wish" -> {
                    Person p = w.people.isEmpty() ? null : w.people.get(0);
                    int who = r.number(0, told);
                    p = w.people.get(who);
                    int place = r.number(0, w.places - 1);
                    p.worth[place] = r.number(1, 99);
                }
                case "bench" -> w.people.get(r.number(0, told)).bench = true;
                default -> w.calls.add(r.number(0, w.places - 1));
            }
        } while (r.sign(';'));
        if (!r.end()) throw new Fault(r.i, 0);
        w.day = 1;
        return w;
    }

    static final List<String> WORDS = List.of("person", "weight", "home", "at", "to", "wish",
            "with", "other", "ring", "owes", "day", "moved");

    static List<Clause> readRule(String text) {
        Reader r = new Reader(text);
        List<Clause> clauses = new ArrayList<>();
        do {
            r.blanks();
            int from = r.i;
            String word = r.word();
            if (!word.equals("bar") && !word.equals("want")) throw new Fault(from, 0);
            if (clauses.size() == 12) throw new Fault(from, 4);
            r.i += word.length();
            if (word.equals("bar")) {
                clauses.add(new Clause(true, null, test(r, 0)));
            } else {
                Sum sum = sum(r);
                Test test = r.eat("if") ? test(r, 0) : a -> true;
                clauses.add(new Clause(false, sum, test));
            }
        } while (r.sign(';'));
        if (!r.end()) throw new Fault(r.i, 0);
        return clauses;
    }

    static Test test(Reader r, int deep) {
        Test t = part(r, deep);
        while (r.eat("or")) {
            Test a = t, b = part(r, deep);
            t = ask -> a.of(ask) || b.of(ask);
        }
        return t;
    }

    static Test part(Reader r, int deep) {
        Test t = fact(r, deep);
        while (r.eat("and")) {
            Test a = t, b = fact(r, deep);
            t = ask -> a.of(ask) && b.of(ask);
        }
        return t;
    }

    static Test fact(Reader r, int deep) {
        r.blanks();
        int from = r.i;
        if (r.sign('[')) {
            if (deep == 10) throw new Fault(from, 2);
            Test t = test(r, deep + 1);
            if (!r.sign(']')) throw new Fault(r.i, 0);
            return t;
        }
        if (r.eat("not")) {
            if (deep == 10) throw new Fault(from, 2);
            Test t = fact(r, deep + 1);
            return ask -> !t.of(ask);
        }
        Sum a = sum(r);
        r.blanks();
        from = r.i;
        char c = r.look();
        if (c != '<' && c != '>' && c != '=') throw new Fault(from, 0);
        if (++r.parts > 60) throw new Fault(from, 3);
        r.i++;
        boolean eq = c != '=' && r.i < r.s.length() && r.s.charAt(r.i) == '=';
        if (eq) r.i++;
        Sum b = sum(r);
        if (c == '=') return ask -> a.of(ask) == b.of(ask);
        if (c == '<') return eq ? ask -> a.of(ask) <= b.of(ask) : ask -> a.of(ask) < b.of(ask);
        return eq ? ask -> a.of(ask) >= b.of(ask) : ask -> a.of(ask) > b.of(ask);
    }

    static Sum sum(Reader r) {
        Sum s = term(r);
        while (r.look() == '+' || r.look() == '-') {
            boolean plus = r.look() == '+';
            r.i++;
            Sum a = s, b = term(r);
            s = plus ? ask -> a.of(ask) + b.of(ask) : ask -> a.of(ask) - b.of(ask);
        }
        return s;
    }

    static Sum term(Reader r) {
        Sum s = value(r);
        while (r.look() == '*' || r.look() == '/') {
            boolean times = r.look() == '*';
            r.i++;
            Sum a = s, b = value(r);
            s = times ? ask -> a.of(ask) * b.of(ask) : ask -> b.of(ask) == 0 ? 0 : a.of(ask) / b.of(ask);
        }
        return s;
    }

    static Sum value(Reader r) {
        r.blanks();
        int from = r.i;
        String word = r.word();
        if (!word.isEmpty()) {
            if (!WORDS.contains(word)) throw new Fault(from, 0);
            if (++r.parts > 60) throw new Fault(from, 3);
            r.i += word.length();
            return ask -> ask.words.get(word);
        }
        long n = r.number(0, 99999);
        if (++r.parts > 60) throw new Fault(from, 3);
        return ask -> n;
    }

    int feed(int... five) {
        if (tape.length() + 20 > 400) return NONE;
        StringBuilder b = new StringBuilder(tape);
        for (int v : five) for (int k = 24; k >= 0; k -= 8) b.append((char) (v >>> k & 255));
        tape = b.toString();
        return tape.length();
    }

    int end(int n) {
        if (n < 0 || n > tape.length()) return NONE;
        tape = tape.substring(0, n);
        return n;
    }

    int country() {
        String text = tape;
        tape = "";
        try {
            World next = readCountry(text);
            next.force = w.force;
            next.x = w.x;
            w = next;
            return w.people.size();
        } catch (Fault f) {
            return -2 - f.number;
        }
    }

    int rule() {
        if (rules.size() == 6) return NONE;
        String text = tape;
        tape = "";
        try {
            rules.add(readRule(text));
            return rules.size() - 1;
        } catch (Fault f) {
            return -2 - f.number;
        }
    }

    int force(int rule) {
        if (rule < -1 || rule >= rules.size()) return -2;
        int was = w.force;
        w.force = rule;
        return was;
    }

    // ---------------------------------------------------------------- LIKING and LAWS

    boolean is(int p) { return p >= 0 && p < w.people.size(); }
    boolean isPlace(int p) { return p >= 0 && p < w.places; }
    boolean no() { return w.places == 0; }
    int n() { return w.people.size(); }

    Ask ask(World u, int p, int at, int to, int with, int ring) {
        Person q = u.people.get(p);
        Ask a = new Ask();
        a.words.put("person", (long) p);
        a.words.put("weight", (long) q.weight);
        a.words.put("home", (long) q.home);
        a.words.put("at", (long) at);
        a.words.put("to", (long) to);
        a.words.put("wish", (long) q.worth[to]);
        a.words.put("with", (long) with);
        a.words.put("other", with == 99 ? 0L : u.people.get(with).weight);
        a.words.put("ring", (long) ring);
        a.words.put("owes", (long) u.owes(p));
        a.words.put("day", (long) u.day);
        a.words.put("moved", (long) q.moved);
        return a;
    }

    /** By the WORD at as told. */
    int like(World u, int p, int at, int to) {
        if (u.force != NONE) {
            Ask a = ask(u, p, at, to, 99, 0);
            for (Clause c : rules.get(u.force)) {
                if (!c.bar && c.test.of(a)) return (int) Math.max(-999, Math.min(999, c.sum.of(a)));
            }
        }
        return u.people.get(p).worth[to];
    }

    boolean barred(World u, int p, int at, int to, int with, int ring) {
        if (u.force == NONE) return false;
        Ask a = ask(u, p, at, to, with, ring);
        for (Clause c : rules.get(u.force)) if (c.bar && c.test.of(a)) return true;
        return false;
    }

    int law(World u, List<Integer> at, List<Integer> ring) {
        for (int i = 0; i < ring.size(); i++) {
            int p = ring.get(i), q = ring.get((i + 1) % ring.size());
            int from = at.get(p), to = at.get(q);
            if (from == to) return 1;
            if (!u.people.get(p).bench && like(u, p, from, to) <= like(u, p, from, from)) return 2;
            if (barred(u, p, from, to, q, ring.size())) return 3;
        }
        return 0;
    }

    static List<Integer> after(List<Integer> at, List<Integer> ring) {
        List<Integer> then = new ArrayList<>(at);
        for (int i = 0; i < ring.size(); i++) then.set(ring.get(i), at.get(ring.get((i + 1) % ring.size())));
        return then;
    }

    int carryOut(World u, List<Integer> ring) {
        List<Integer> then = after(u.spots(), ring);
        int coal = 0;
        for (int i = 0; i < ring.size(); i++) {
            int p = ring.get(i), q = ring.get((i + 1) % ring.size());
            int more = u.people.get(p).weight - u.people.get(q).weight;
            if (more > 0) { u.owed[p][q] += more; coal += more; }
            u.people.get(p).moved++;
        }
        for (int p = 0; p < u.people.size(); p++) u.people.get(p).at = then.get(p);
        u.rings++;
        return coal;
    }

    boolean happy(World u, int p) {
        int at = u.people.get(p).at;
        for (int q = 0; q < u.places; q++) if (like(u, p, at, q) > like(u, p, at, at)) return false;
        return true;
    }

    // ---------------------------------------------------------------- what is so

    int person(int p, int what) {
        if (!is(p)) return NONE;
        Person q = w.people.get(p);
        switch (what) {
            case 0: return q.at;
            case 1: return q.weight;
            case 2: return q.home;
            case 3: return q.bench ? 1 : 0;
            case 4: return q.moved;
            case 5: return w.owes(p);
            case 6: { int s = 0; for (int i = 0; i < 10; i++) s += w.owed[i][p]; return s; }
            case 7: return happy(w, p) ? 1 : 0;
            default: return NONE;
        }
    }

    int wish(int p, int q) { return is(p) && isPlace(q) ? w.people.get(p).worth[q] : NONE; }

    int liking(int p, int q) { return is(p) && isPlace(q) ? like(w, p, w.people.get(p).at, q) : -1000; }

    int desire(int p, int q, int worth) {
        if (!is(p) || !isPlace(q) || worth < 0 || worth > 99) return NONE;
        int was = w.people.get(p).worth[q];
        w.people.get(p).worth[q] = worth;
        return was;
    }

    int place(int q, int what) {
        if (!isPlace(q) || what < 0 || what > 3) return NONE;
        if (what == 3) { int c = 0; for (int k : w.calls) if (k == q) c++; return c; }
        int bits = 0;
        for (int p = 0; p < n(); p++) {
            int at = w.people.get(p).at;
            boolean in = what == 0 ? at == q
                    : what == 1 ? at != q && like(w, p, at, q) > like(w, p, at, at)
                    : at == q && !happy(w, p);
            if (in) bits += 1 << p;
        }
        return bits;
    }

    // ---------------------------------------------------------------- by hand

    int call(int p) {
        if (p == NONE) { w.called.clear(); return 0; }
        if (!is(p) || w.called.contains(p) || w.called.size() == 6) return -2;
        w.called.add(p);
        return w.called.size();
    }

    int may() { return w.called.size() < 2 ? NONE : law(w, w.spots(), w.called); }

    int go() {
        if (w.called.size() < 2) return NONE;
        int law = may();
        if (law != 0) return -2 - law;
        w.past.add(w.bare());
        if (w.past.size() > 20) w.past.remove(0);
        int coal = carryOut(w, w.called);
        w.called.clear();
        return coal;
    }

    int undo() {
        if (w.past.isEmpty()) return NONE;
        World was = w.past.remove(w.past.size() - 1);
        for (int p = 0; p < n(); p++) {
            w.people.get(p).at = was.people.get(p).at;
            w.people.get(p).moved = was.people.get(p).moved;
        }
        w.owed = was.owed;
        w.day = was.day;
        w.rings = was.rings;
        return w.past.size();
    }

    int owes(int a, int b) { return is(a) && is(b) && a != b ? w.owed[a][b] : NONE; }

    int pay(int a, int b, int n) {
        if (!is(a) || !is(b) || a == b || n < 1 || n > w.owed[a][b]) return NONE;
        return w.owed[a][b] -= n;
    }

    int strike() {
        if (no()) return NONE;
        int less = 0;
        while (true) {
            List<List<Integer>> rings = new ArrayList<>();
            for (int p = 0; p < n(); p++) debts(new ArrayList<>(List.of(p)), rings);
            if (rings.isEmpty()) return less;
            List<Integer> best = rings.get(0);
            for (List<Integer> r : rings) if (r.size() < best.size()) best = r;
            int least = Integer.MAX_VALUE;
            int k = best.size();
            for (int i = 0; i < k; i++) least = Math.min(least, w.owed[best.get(i)][best.get((i + 1) % k)]);
            for (int i = 0; i < k; i++) w.owed[best.get(i)][best.get((i + 1) % k)] -= least;
            less += least * k;
        }
    }

    /** All rings of debts, begun with the least PERSON, as rows in their order. */
    void debts(List<Integer> row, List<List<Integer>> rings) {
        int last = row.get(row.size() - 1);
        if (row.size() > 1 && w.owed[last][row.get(0)] > 0) rings.add(new ArrayList<>(row));
        for (int q = row.get(0) + 1; q < n(); q++) {
            if (!row.contains(q) && w.owed[last][q] > 0) {
                row.add(q);
                debts(row, rings);
                row.remove(row.size() - 1);
            }
        }
    }

    int dawn() { return no() || w.day >= 9999 ? NONE : ++w.day; }

    int book() {
        if (w.called.size() < 2 || w.book.size() == 12) return NONE;
        w.book.add(new ArrayList<>(w.called));
        w.called.clear();
        return w.book.size() - 1;
    }

    int burn() { int k = w.book.size(); w.book.clear(); return k; }

    int[] judge(List<Integer> at) {
        for (int i = 0; i < w.book.size(); i++) {
            int law = law(w, at, w.book.get(i));
            if (law != 0) return new int[] {i, law};
            List<Integer> then = after(at, w.book.get(i));
            at.clear();
            at.addAll(then);
        }
        return new int[] {NONE, 0};
    }

    int judged(int what) { return what < 0 || what > 1 ? -2 : judge(w.spots())[what]; }

    int then(int p) {
        if (!is(p)) return NONE;
        List<Integer> at = w.spots();
        judge(at);
        return at.get(p);
    }

    int laidOut(int ring) {
        if (ring < -1 || ring >= w.book.size()) return -2;
        List<Integer> days = new ArrayList<>();
        int all = 0;
        for (int i = 0; i < w.book.size(); i++) {
            int day = 0;
            for (int j = 0; j < i; j++) {
                if (!Collections.disjoint(w.book.get(i), w.book.get(j))) day = Math.max(day, days.get(j));
            }
            days.add(day + 1);
            all = Math.max(all, day + 1);
        }
        return ring == NONE ? all : days.get(ring);
    }

    // ---------------------------------------------------------------- who changes with whom

    List<List<Integer>> changersAt(List<Integer> at) {
        List<List<Integer>> all = new ArrayList<>();
        for (int i = 0; i < n(); i++) {
            for (int j = i + 1; j < n(); j++) if (law(w, at, List.of(i, j)) == 0) all.add(List.of(i, j));
        }
        return all;
    }

    int changers(int k, int what) {
        if (no() || what < 0 || what > 2) return NONE;
        List<List<Integer>> all = changersAt(w.spots());
        if (what == 2) return all.size();
        return k < 0 || k >= all.size() ? NONE : all.get(k).get(what);
    }

    int[][] likes() {
        int[][] l = new int[n()][w.places];
        for (int p = 0; p < n(); p++) for (int q = 0; q < w.places; q++) l[p][q] = liking(p, q);
        return l;
    }

    /** Tries all sets, those ahead in the order first, and keeps the first that is better. */
    final class Tries {
        final int[][] like;
        final int k;
        int[] takes = new int[n()], best;
        int bestGain, bestCount;
        Tries(int[][] like, int k) {
            this.like = like;
            this.k = k;
            for (int p = 0; p < n(); p++) takes[p] = NONE;
            from(0, 0, 0);
        }
        int at(int p) { return w.people.get(p).at; }
        void from(int p, int gain, int count) {
            if (p == n()) {
                if (best == null || gain > bestGain || gain == bestGain && count < bestCount) {
                    best = takes.clone();
                    bestGain = gain;
                    bestCount = count;
                }
                return;
            }
            if (takes[p] != NONE) { from(p + 1, gain, count); return; }
            takes[p] = p;
            from(p + 1, gain, count);
            takes[p] = NONE;
            grow(new ArrayList<>(List.of(p)), gain, count);
        }
        void grow(List<Integer> row, int gain, int count) {
            if (row.size() > 1 && can(row)) {
                int more = 0, m = row.size();
                for (int i = 0; i < m; i++) {
                    int a = row.get(i), b = row.get((i + 1) % m);
                    takes[a] = b;
                    more += like[a][at(b)] - like[a][at(a)];
                }
                from(row.get(0) + 1, gain + more, count + m);
                for (int a : row) takes[a] = NONE;
            }
            if (row.size() == k) return;
            for (int q = row.get(0) + 1; q < n(); q++) {
                if (takes[q] == NONE && !row.contains(q)) {
                    row.add(q);
                    grow(row, gain, count);
                    row.remove(row.size() - 1);
                }
            }
        }
        boolean can(List<Integer> row) {
            int m = row.size();
            for (int i = 0; i < m; i++) {
                int a = row.get(i), b = row.get((i + 1) % m);
                if (at(a) == at(b)) return false;
                if (!w.people.get(a).bench && like[a][at(b)] <= like[a][at(a)]) return false;
                if (barred(w, a, at(a), at(b), b, m)) return false;
            }
            return true;
        }
    }

    int[] coreBy(int[][] like) {
        int[] takes = new int[n()];
        Set<Integer> left = new TreeSet<>();
        for (int p = 0; p < n(); p++) left.add(p);
        while (!left.isEmpty()) {
            Map<Integer, Integer> points = new TreeMap<>();
            for (int p : left) {
                int at = w.people.get(p).at, target = p, best = like[p][at];
                for (int q = 0; q < w.places; q++) {
                    int there = NONE;
                    for (int o : left) if (there == NONE && w.people.get(o).at == q) there = o;
                    if (there != NONE && like[p][q] > best) { best = like[p][q]; target = there; }
                }
                points.put(p, target);
            }
            Set<Integer> gone = new TreeSet<>();
            for (int p : left) {
                int o = p;
                for (int i = 0; i < 20; i++) {
                    o = points.get(o);
                    if (o == p) gone.add(p);
                }
            }
            for (int p : gone) takes[p] = points.get(p);
            left.removeAll(gone);
        }
        return takes;
    }

    int most(int k, int what) {
        if (no() || k < 2 || k > 4 || what < 0 || what > 1) return NONE;
        Tries t = new Tries(likes(), k);
        return what == 0 ? t.bestGain : t.bestCount;
    }

    int mostOf(int k, int p) { return !is(p) || k < 2 || k > 4 ? NONE : new Tries(likes(), k).best[p]; }

    int core(int p) { return is(p) ? coreBy(likes())[p] : NONE; }

    int blocks(int what) {
        if (no() || what < 0 || what == 1 || what > 4) return NONE;
        int[][] l = likes();
        int[] takes = what == 0 ? coreBy(l) : new Tries(l, what).best;
        int c = 0;
        for (int i = 0; i < n(); i++) {
            for (int j = i + 1; j < n(); j++) {
                int a = w.people.get(takes[i]).at, b = w.people.get(takes[j]).at;
                if (l[i][b] > l[i][a] && l[j][a] > l[j][b]) c++;
            }
        }
        return c;
    }

    // ---------------------------------------------------------------- journeys

    /** The RINGS, or null with the answer in unfound[0]. */
    List<List<Integer>> way(int p, int q, int[] unfound) {
        List<Integer> first = w.spots();
        if (first.get(p) == q) return List.of();
        Map<List<Integer>, List<List<Integer>>> came = new LinkedHashMap<>();
        Deque<List<Integer>> queue = new ArrayDeque<>();
        came.put(first, List.of());
        queue.add(first);
        while (!queue.isEmpty()) {
            List<Integer> at = queue.poll();
            for (List<Integer> ring : changersAt(at)) {
                List<Integer> then = after(at, ring);
                if (came.containsKey(then)) continue;
                List<List<Integer>> row = new ArrayList<>(came.get(at));
                row.add(ring);
                if (then.get(p) == q) return row;
                if (came.size() == 2000) { unfound[0] = -3; return null; }
                came.put(then, row);
                queue.add(then);
            }
        }
        unfound[0] = -2;
        return null;
    }

    int journey(int p, int q) {
        if (!is(p) || !isPlace(q)) return NONE;
        int[] unfound = new int[1];
        List<List<Integer>> row = way(p, q, unfound);
        return row == null ? unfound[0] : row.size();
    }

    int row(int p, int q, int k, int what) {
        if (!is(p) || !isPlace(q) || k < 0 || what < 0 || what > 1) return NONE;
        int[] unfound = new int[1];
        List<List<Integer>> row = way(p, q, unfound);
        if (row == null) return unfound[0];
        return k < row.size() ? row.get(k).get(what) : -2;
    }

    int reached(int p) {
        if (no() || p != NONE && !is(p)) return -2;
        Set<List<Integer>> seen = new HashSet<>();
        Deque<List<Integer>> queue = new ArrayDeque<>();
        seen.add(w.spots());
        queue.add(w.spots());
        while (!queue.isEmpty()) {
            List<Integer> at = queue.poll();
            for (List<Integer> ring : changersAt(at)) {
                List<Integer> then = after(at, ring);
                if (seen.add(then)) queue.add(then);
                if (seen.size() > 2000) return -3;
            }
        }
        if (p == NONE) return seen.size();
        int bits = 0;
        for (List<Integer> at : seen) bits |= 1 << at.get(p);
        return bits;
    }

    boolean found(int p, int q) {
        if (!is(p) || q != NONE && !isPlace(q)) return false;
        if (q == NONE) w.found.remove(p); else w.found.put(p, q);
        return true;
    }

    boolean so(List<Integer> at) {
        for (Map.Entry<Integer, Integer> e : w.found.entrySet()) if (!at.get(e.getKey()).equals(e.getValue())) return false;
        return true;
    }

    int done(int what) {
        if (no() || what < 0 || what > 2) return NONE;
        Set<List<Integer>> seen = new HashSet<>();
        Map<List<Integer>, Integer> level = new LinkedHashMap<>();
        level.put(w.homes(), 1);
        seen.add(w.homes());
        for (int rings = 0; !level.isEmpty(); rings++) {
            if (seen.size() > 2000) return -3;
            int count = 0, ways = 0;
            for (Map.Entry<List<Integer>, Integer> e : level.entrySet()) {
                if (so(e.getKey())) {
                    if (count == 0) ways = e.getValue();
                    count++;
                }
            }
            if (count > 0) return what == 0 ? rings : what == 1 ? count : ways == 1 ? 1 : 0;
            Map<List<Integer>, Integer> next = new LinkedHashMap<>();
            for (Map.Entry<List<Integer>, Integer> e : level.entrySet()) {
                for (List<Integer> ring : changersAt(e.getKey())) {
                    List<Integer> then = after(e.getKey(), ring);
                    if (!seen.contains(then)) next.merge(then, e.getValue(), (a, b) -> Math.min(99, a + b));
                }
            }
            seen.addAll(next.keySet());
            level = next;
        }
        return -2;
    }

    // ---------------------------------------------------------------- doctors, lies, draws

    int servedBy(int set) {
        int c = 0;
        for (int call : w.calls) {
            boolean ok = false;
            for (int q = 0; q < w.places; q++) {
                if ((set >> q & 1) == 0) continue;
                if (q == call) ok = true;
                for (int p = 0; p < n(); p++) {
                    Person r = w.people.get(p);
                    if (r.at == call && (r.bench || like(w, p, call, q) > like(w, p, call, call))) ok = true;
                }
            }
            if (ok) c++;
        }
        return c;
    }

    int doctors(int n) {
        if (no() || n < -1 || n > 8) return -2;
        if (n == NONE) {
            for (int size = 0; size <= w.places; size++) {
                for (int set = 0; set < 1 << w.places; set++) {
                    if (Integer.bitCount(set) == size && servedBy(set) == w.calls.size()) return set;
                }
            }
        }
        int best = -1, most = -1;
        for (int set = 0; set < 1 << w.places; set++) {
            if (Integer.bitCount(set) == Math.min(n, w.places) && servedBy(set) > most) {
                most = servedBy(set);
                best = set;
            }
        }
        return best;
    }

    int served(int set) { return no() || set < 0 || set >> w.places != 0 ? NONE : servedBy(set); }

    int lie(int what, int p) {
        if (!is(p) || what < 0 || what > 1) return NONE;
        int[][] truth = likes();
        int[] takes = what == 0 ? new Tries(truth, 2).best : coreBy(truth);
        int honest = truth[p][w.people.get(takes[p]).at];
        for (int q = 0; q < w.places; q++) {
            int[][] said = likes();
            for (int o = 0; o < w.places; o++) said[p][o] = o == q ? 999 : 0;
            takes = what == 0 ? new Tries(said, 2).best : coreBy(said);
            if (truth[p][w.people.get(takes[p]).at] > honest) return q;
        }
        return -2;
    }

    int liars(int what) {
        if (no() || what < 0 || what > 1) return NONE;
        int bits = 0;
        for (int p = 0; p < n(); p++) if (lie(what, p) >= 0) bits |= 1 << p;
        return bits;
    }

    int seed(int x) {
        if (x < 0) return NONE;
        int was = w.x;
        w.x = x;
        return was;
    }

    int years(int m, int k, int what) {
        if (m < 1 || m > 20 || k < 1 || k > 200 || what < 0 || what > 2 || n() == 0) return NONE;
        long x = w.x;
        int rings = 0, coal = 0, happy = 0;
        for (int year = 0; year < m; year++) {
            World u = w.copy();
            for (int i = 0; i < k; i++) {
                x = (x * 1103515245L + 12345L) % 2147483648L;
                int a = (int) (x / 65536 % n());
                x = (x * 1103515245L + 12345L) % 2147483648L;
                int b = (int) (x / 65536 % n());
                if (a != b && law(u, u.spots(), List.of(a, b)) == 0) {
                    rings++;
                    coal += carryOut(u, List.of(a, b));
                }
            }
            for (int p = 0; p < n(); p++) if (happy(u, p)) happy++;
        }
        return what == 0 ? rings : what == 1 ? coal : happy;
    }

    int count(int what) {
        int coal = 0;
        for (int p = 0; p < 10; p++) coal += w.owes(p);
        int[] all = {w.places, n(), w.calls.size(), rules.size(), w.force, w.day, w.called.size(), w.book.size(),
            w.past.size(), coal, w.found.size(), w.rings, w.x, tape.length()};
        return what < 0 || what >= all.length ? NONE : all[what];
    }

    int image(int k) {
        if (k < 0 || k > 3) return NONE;
        images[k] = w.copy();
        return w.rings;
    }

    int back(int k) {
        if (k < 0 || k > 3 || images[k] == null) return NONE;
        w = images[k].copy();
        return w.rings;
    }
}
