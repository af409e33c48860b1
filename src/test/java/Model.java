import java.util.ArrayDeque;
import java.util.ArrayList;
import java.util.Arrays;
import java.util.HashMap;
import java.util.List;
import java.util.Map;
import java.util.TreeMap;

/**
 * The document once more, in another way: by objects, exceptions and trying all there is.
 * ModelTest lets it and the class answer the same calls.
 */
final class Model {
    static final int NONE = -1;

    // ---- questions as they stand

    /** number, thing, plus, times, age, kids, kin, way, more, less, if; the rank is the document's order. */
    static final class E {
        final int rank;
        final int value;
        final List<E> parts = new ArrayList<>();
        final List<Integer> signs = new ArrayList<>();

        E(int rank, int value) {
            this.rank = rank;
            this.value = value;
        }

        E with(E part, int sign) {
            parts.add(part);
            signs.add(sign);
            return this;
        }

        /** Numbers whose order, place by place, is the document's order of what is said. */
        List<Integer> key() {
            List<Integer> key = new ArrayList<>();
            key.add(rank);
            key.add(value);
            key.add(parts.size());
            for (int i = 0; i < parts.size(); i++) {
                key.add(-signs.get(i));
                key.addAll(parts.get(i).key());
            }
            return key;
        }
    }

    static int compareKeys(List<Integer> a, List<Integer> b) {
        for (int i = 0; i < Math.min(a.size(), b.size()); i++) {
            int c = Integer.compare(a.get(i), b.get(i));
            if (c != 0) {
                return c;
            }
        }
        return Integer.compare(a.size(), b.size());
    }

    static final class Question {
        E root;
        int leaves;
        int depth;
        int words;
        int greatest = NONE;
    }

    static final class Clause {
        String word;
        List<Integer> numbers = new ArrayList<>();
        Question question;
    }

    // ---- state

    static final class State {
        int[] things = new int[4];
        List<int[]> people = new ArrayList<>();
        int[][] roads = new int[6][6];
        int equalities;
        List<List<Clause>> texts = new ArrayList<>();
        List<Question> questions = new ArrayList<>();
        List<int[]> pupils = new ArrayList<>();
        int answer;
        List<int[]> asked = new ArrayList<>();
        List<int[]> heard = new ArrayList<>();
        List<int[]> told = new ArrayList<>();

        State copy() {
            State s = new State();
            s.things = things.clone();
            s.people.addAll(people);
            for (int i = 0; i < 6; i++) {
                s.roads[i] = roads[i].clone();
            }
            s.equalities = equalities;
            s.texts.addAll(texts);
            s.questions.addAll(questions);
            s.pupils.addAll(pupils);
            s.answer = answer;
            s.asked.addAll(asked);
            s.heard.addAll(heard);
            s.told.addAll(told);
            return s;
        }
    }

    State s = new State();
    State saved = new State();
    StringBuilder tape = new StringBuilder();
    boolean hasRead;
    int fault;
    int place;

    // ---- world

    boolean thing(int thing, int number) {
        if (thing < 0 || thing > 3 || number < 0 || number > 99) {
            return false;
        }
        s.things[thing] = number;
        return true;
    }

    int person(int age, int one, int other) {
        int n = s.people.size();
        if (age < 0 || age > 99 || one < NONE || other < NONE || one >= n || other >= n || n == 8) {
            return NONE;
        }
        if (one == other && one != NONE) {
            return NONE;
        }
        s.people.add(new int[] {age, one, other});
        return n;
    }

    boolean road(int one, int other, int length) {
        if (one < 0 || one > 5 || other < 0 || other > 5 || one == other || length < 1 || length > 99) {
            return false;
        }
        s.roads[one][other] = length;
        s.roads[other][one] = length;
        return true;
    }

    int kin(int one, int other) {
        int n = s.people.size();
        if (one < 0 || other < 0 || one >= n || other >= n) {
            return -2;
        }
        int[] far = new int[n];
        Arrays.fill(far, -1);
        far[one] = 0;
        ArrayDeque<Integer> queue = new ArrayDeque<>(List.of(one));
        while (!queue.isEmpty()) {
            int x = queue.remove();
            for (int y = 0; y < n; y++) {
                int[] px = s.people.get(x);
                int[] py = s.people.get(y);
                boolean step = px[1] == y || px[2] == y || py[1] == x || py[2] == x;
                if (step && far[y] < 0) {
                    far[y] = far[x] + 1;
                    queue.add(y);
                }
            }
        }
        return far[other];
    }

    int way(int one, int other) {
        if (one < 0 || other < 0 || one > 5 || other > 5) {
            return -2;
        }
        int[] far = new int[6];
        Arrays.fill(far, 1 << 20);
        far[one] = 0;
        for (int round = 0; round < 6; round++) {
            for (int i = 0; i < 6; i++) {
                for (int j = 0; j < 6; j++) {
                    if (s.roads[i][j] > 0) {
                        far[j] = Math.min(far[j], far[i] + s.roads[i][j]);
                    }
                }
            }
        }
        return far[other] >= 1 << 20 ? -1 : far[other];
    }

    static int clamp(long v) {
        return (int) Math.max(-1000000, Math.min(1000000, v));
    }

    int value(E e, int[] things) {
        switch (e.rank) {
            case 0:
                return e.value;
            case 1:
                return things[e.value];
            case 2: {
                int sum = value(e.parts.get(0), things) * e.signs.get(0);
                for (int i = 1; i < e.parts.size(); i++) {
                    sum = clamp((long) sum + e.signs.get(i) * value(e.parts.get(i), things));
                }
                return sum;
            }
            case 3: {
                int product = value(e.parts.get(0), things);
                for (int i = 1; i < e.parts.size(); i++) {
                    product = clamp((long) product * value(e.parts.get(i), things));
                }
                return product;
            }
            default:
        }
        int a = value(e.parts.get(0), things);
        if (e.rank == 4) {
            return a >= 0 && a < s.people.size() ? s.people.get(a)[0] : -1;
        }
        if (e.rank == 5) {
            int kids = 0;
            for (int[] p : s.people) {
                if (p[1] == a || p[2] == a) {
                    kids++;
                }
            }
            return a >= 0 && a < s.people.size() ? kids : -1;
        }
        int b = value(e.parts.get(1), things);
        switch (e.rank) {
            case 6:
                return Math.max(-1, kin(a, b));
            case 7:
                return Math.max(-1, way(a, b));
            case 8:
                return a > b ? a : b;
            case 9:
                return a < b ? a : b;
            default:
        }
        boolean[] holds = {a < b, a <= b, a > b, a >= b, a == b, a != b};
        return value(e.parts.get(holds[e.value] ? 2 : 3), things);
    }

    // ---- texts

    static final class Fault extends Exception {
        private static final long serialVersionUID = 1;
        final int number;
        final int place;

        Fault(int number, int place) {
            this.number = number;
            this.place = place;
        }
    }

    /** Takes tokens from the front of the bytes, one at a time. */
    static final class Parser {
        final String text;
        int from;
        int start;
        String token;
        Question q;

        Parser(String text) {
            this.text = text;
            next();
        }

        static boolean letter(char c) {
            return c >= 'a' && c <= 'z' || c >= 'A' && c <= 'Z';
        }

        static boolean digit(char c) {
            return c >= '0' && c <= '9';
        }

        void next() {
            while (from < text.length() && " \n".indexOf(text.charAt(from)) >= 0) {
                from++;
            }
            start = from;
            if (from == text.length()) {
                token = "";
                return;
            }
            char c = text.charAt(from++);
            if (letter(c)) {
                while (from < text.length() && letter(text.charAt(from))) {
                    from++;
                }
            } else if (digit(c)) {
                while (from < text.length() && digit(text.charAt(from))) {
                    from++;
                }
            } else if ("<>".indexOf(c) >= 0 && from < text.length() && text.charAt(from) == '=') {
                from++;
            }
            token = text.substring(start, from);
        }

        Fault at(int number) {
            return new Fault(number, start);
        }

        void want(String word) throws Fault {
            if (!token.equals(word)) {
                throw at(1);
            }
            next();
        }

        boolean isNumber() {
            return !token.isEmpty() && digit(token.charAt(0));
        }

        int number(int low, int high) throws Fault {
            if (!isNumber()) {
                throw at(1);
            }
            java.math.BigInteger n = new java.math.BigInteger(token);
            int v = n.bitLength() > 20 ? 1 << 20 : n.intValue();
            if (v < low || v > high) {
                throw at(2);
            }
            return v;
        }

        int numberPast(int low, int high) throws Fault {
            int v = number(low, high);
            next();
            return v;
        }

        List<Clause> all() throws Fault {
            List<Clause> clauses = new ArrayList<>();
            while (!token.isEmpty()) {
                List<String> starts =
                        List.of("ask", "let", "born", "path", "say", "pupil", "answer", "asks", "morning");
                if (!starts.contains(token)) {
                    throw at(1);
                }
                if (clauses.size() == 24) {
                    throw at(5);
                }
                clauses.add(clause());
                want(";");
            }
            return clauses;
        }

        Clause clause() throws Fault {
            Clause c = new Clause();
            c.word = token;
            next();
            List<Integer> n = c.numbers;
            switch (c.word) {
                case "ask":
                    q = new Question();
                    q.root = sum(0);
                    c.question = q;
                    break;
                case "let":
                    if (!List.of("p", "q", "r", "s").contains(token)) {
                        throw at(1);
                    }
                    n.add(token.charAt(0) - 'p');
                    next();
                    want("be");
                    n.add(numberPast(0, 99));
                    break;
                case "born":
                    n.add(numberPast(0, 99));
                    if (token.equals("of")) {
                        next();
                        n.add(numberPast(0, 7));
                        want("and");
                        n.add(numberPast(0, 7));
                    } else {
                        n.addAll(List.of(NONE, NONE));
                    }
                    break;
                case "path":
                    n.add(numberPast(0, 5));
                    want("to");
                    n.add(numberPast(0, 5));
                    want("long");
                    n.add(numberPast(1, 99));
                    break;
                case "say":
                    n.add(numberPast(0, 255));
                    break;
                case "pupil":
                    n.add(numberPast(1, 99));
                    want("knows");
                    n.add(numberPast(0, 32767));
                    want("to");
                    n.add(numberPast(0, 99));
                    want("deep");
                    n.add(numberPast(0, 8));
                    want("long");
                    n.add(numberPast(1, 16));
                    break;
                case "answer":
                    n.add(numberPast(0, 9999));
                    break;
                case "asks":
                    n.add(numberPast(0, 5));
                    n.add(numberPast(0, 11));
                    break;
                default:
            }
            return c;
        }

        E sum(int open) throws Fault {
            E e = new E(2, 0).with(product(open), 1);
            while (token.equals("+") || token.equals("-")) {
                int sign = token.equals("+") ? 1 : -1;
                q.words |= sign > 0 ? 16 : 32;
                next();
                e.with(product(open), sign);
            }
            return e.parts.size() == 1 ? e.parts.get(0) : e;
        }

        E product(int open) throws Fault {
            E e = new E(3, 0).with(one(open), 1);
            while (token.equals("*")) {
                q.words |= 64;
                next();
                e.with(one(open), 1);
            }
            return e.parts.size() == 1 ? e.parts.get(0) : e;
        }

        void open(String what, int open) throws Fault {
            if (token.equals(what) && open == 8) {
                throw at(3);
            }
            want(what);
            q.depth = Math.max(q.depth, open + 1);
        }

        void leaf() throws Fault {
            if (q.leaves == 16) {
                throw at(4);
            }
            q.leaves++;
            next();
        }

        E one(int open) throws Fault {
            if (isNumber()) {
                E e = new E(0, number(0, 99));
                q.greatest = Math.max(q.greatest, e.value);
                leaf();
                return e;
            }
            if (token.length() == 1 && "pqrs".contains(token)) {
                E e = new E(1, token.charAt(0) - 'p');
                q.words |= 1 << e.value;
                leaf();
                return e;
            }
            if (token.equals("(")) {
                q.words |= 128;
                open("(", open);
                E e = sum(open + 1);
                want(")");
                return e;
            }
            if (token.equals("if")) {
                return choice(open);
            }
            int word = List.of("age", "kids", "kin", "way", "more", "less").indexOf(token);
            if (word < 0) {
                throw at(1);
            }
            q.words |= 256 << word;
            next();
            open("(", open);
            E e = new E(4 + word, 0).with(sum(open + 1), 1);
            if (word > 1) {
                want(",");
                e.with(sum(open + 1), 1);
            }
            want(")");
            return e;
        }

        E choice(int open) throws Fault {
            q.words |= 1 << 14;
            open("if", open);
            E a = sum(open + 1);
            int cmp = List.of("<", "<=", ">", ">=", "=", "#").indexOf(token);
            if (cmp < 0) {
                throw at(1);
            }
            next();
            E e = new E(10, cmp).with(a, 1).with(sum(open + 1), 1);
            want("?");
            e.with(sum(open + 1), 1);
            want(":");
            e.with(sum(open + 1), 1);
            want("end");
            return e;
        }
    }

    int feed(int a, int b, int c, int d, int e) {
        if (tape.length() + 20 > 300) {
            return NONE;
        }
        for (int w : new int[] {a, b, c, d, e}) {
            tape.append((char) (w >>> 24)).append((char) (w >> 16 & 255));
            tape.append((char) (w >> 8 & 255)).append((char) (w & 255));
        }
        return tape.length();
    }

    int end(int n) {
        if (n < 0 || n > tape.length()) {
            return NONE;
        }
        tape.setLength(n);
        return n;
    }

    int text() {
        if (s.texts.size() == 4) {
            return NONE;
        }
        String all = tape.toString();
        tape.setLength(0);
        hasRead = true;
        fault = 0;
        place = NONE;
        try {
            s.texts.add(new Parser(all).all());
        } catch (Fault f) {
            fault = f.number;
            place = f.place;
            return NONE;
        }
        return s.texts.size() - 1;
    }

    int fault(int what) {
        return !hasRead ? NONE : what == 0 ? fault : what == 1 ? place : NONE;
    }

    int played(int text) {
        if (text < 0 || text >= s.texts.size()) {
            return -2;
        }
        List<Clause> clauses = s.texts.get(text);
        for (int i = 0; i < clauses.size(); i++) {
            if (!perform(clauses.get(i))) {
                return i;
            }
        }
        return NONE;
    }

    boolean perform(Clause c) {
        List<Integer> n = c.numbers;
        switch (c.word) {
            case "ask":
                if (s.questions.size() == 12) {
                    return false;
                }
                s.questions.add(c.question);
                return true;
            case "let":
                return thing(n.get(0), n.get(1));
            case "born":
                return person(n.get(0), n.get(1), n.get(2)) != NONE;
            case "path":
                return road(n.get(0), n.get(1), n.get(2));
            case "say":
                return equalities(n.get(0));
            case "pupil":
                return pupil(n.get(0), n.get(1), n.get(2), n.get(3), n.get(4)) != NONE;
            case "answer":
                return answer(n.get(0));
            case "asks":
                return ask(n.get(0), n.get(1)) != NONE;
            default:
                morning(NONE);
                return true;
        }
    }

    // ---- said

    boolean equalities(int bits) {
        if (bits < 0 || bits > 255) {
            return false;
        }
        s.equalities = bits;
        return true;
    }

    static boolean bit(int bits, int i) {
        return (bits >> i & 1) != 0;
    }

    E said(E e, int bits) {
        E n = new E(e.rank, e.value);
        for (int i = 0; i < e.parts.size(); i++) {
            n.with(said(e.parts.get(i), bits), e.signs.get(i));
        }
        if (n.rank == 2 && bit(bits, 0) || n.rank == 3 && bit(bits, 1)) {
            E flat = new E(n.rank, 0);
            for (int i = 0; i < n.parts.size(); i++) {
                E part = n.parts.get(i);
                if (part.rank == n.rank) {
                    for (int j = 0; j < part.parts.size(); j++) {
                        flat.with(part.parts.get(j), n.signs.get(i) * part.signs.get(j));
                    }
                } else {
                    flat.with(part, n.signs.get(i));
                }
            }
            n = flat;
        }
        if (n.rank == 2 && bit(bits, 2) || n.rank == 3 && bit(bits, 3)) {
            int unit = n.rank == 2 ? 0 : 1;
            E fewer = new E(n.rank, 0);
            for (int i = 0; i < n.parts.size(); i++) {
                if (n.parts.get(i).rank != 0 || n.parts.get(i).value != unit) {
                    fewer.with(n.parts.get(i), n.signs.get(i));
                }
            }
            n = fewer.parts.isEmpty() ? new E(0, unit) : fewer;
        }
        boolean numbers = !n.parts.isEmpty() && n.parts.stream().allMatch(p -> p.rank == 0);
        if (bit(bits, 7) && numbers && (n.rank == 2 || n.rank == 3 || n.rank == 8 || n.rank == 9)) {
            n = new E(0, value(n, s.things));
        }
        if (n.rank == 2 && bit(bits, 0) || n.rank == 3 && bit(bits, 1)) {
            n = sorted(n);
        }
        if ((n.rank == 2 || n.rank == 3) && n.parts.size() == 1 && n.signs.get(0) > 0) {
            return n.parts.get(0);
        }
        if ((n.rank == 6 || n.rank == 7) && bit(bits, 4)) {
            n = sorted(n);
        }
        if ((n.rank == 8 || n.rank == 9) && bit(bits, 5)) {
            n = sorted(n);
            if (n.parts.get(0).key().equals(n.parts.get(1).key())) {
                return n.parts.get(0);
            }
        }
        if (n.rank == 10 && bit(bits, 6)) {
            if (n.value == 2 || n.value == 3) {
                E turned = new E(10, n.value - 2);
                turned.with(n.parts.get(1), 1).with(n.parts.get(0), 1);
                n = turned.with(n.parts.get(2), 1).with(n.parts.get(3), 1);
            }
            if (n.parts.get(2).key().equals(n.parts.get(3).key())) {
                return n.parts.get(2);
            }
        }
        return n;
    }

    static E sorted(E e) {
        List<Integer> order = new ArrayList<>();
        for (int i = 0; i < e.parts.size(); i++) {
            order.add(i);
        }
        order.sort((i, j) -> e.signs.get(i).equals(e.signs.get(j))
                ? compareKeys(e.parts.get(i).key(), e.parts.get(j).key())
                : e.signs.get(j) - e.signs.get(i));
        E n = new E(e.rank, e.value);
        for (int i : order) {
            n.with(e.parts.get(i), e.signs.get(i));
        }
        return n;
    }

    boolean isQ(int q) {
        return q >= 0 && q < s.questions.size();
    }

    boolean isP(int p) {
        return p >= 0 && p < s.pupils.size();
    }

    boolean like(int a, int b, int bits) {
        E x = said(s.questions.get(a).root, bits);
        E y = said(s.questions.get(b).root, bits);
        return x.key().equals(y.key());
    }

    int alike(int a, int b) {
        return !isQ(a) || !isQ(b) ? NONE : like(a, b, s.equalities) ? 1 : 0;
    }

    int nearly(int a, int b) {
        return !isQ(a) || !isQ(b) ? NONE : like(a, b, 255) && !like(a, b, s.equalities) ? 1 : 0;
    }

    int worth(int q) {
        return value(s.questions.get(q).root, s.things);
    }

    int of(int q, int what) {
        if (!isQ(q)) {
            return -2000000;
        }
        Question x = s.questions.get(q);
        int[] all = {worth(q), x.leaves, x.depth, x.words, x.greatest};
        return what < 0 || what > 4 ? -2000000 : all[what];
    }

    int parted(int a, int b, int thing) {
        if (!isQ(a) || !isQ(b) || thing < 0 || thing > 3) {
            return NONE;
        }
        for (int w = 0; w < 10000; w++) {
            int[] t = {w / 1000, w / 100 % 10, w / 10 % 10, w % 10};
            if (value(s.questions.get(a).root, t) != value(s.questions.get(b).root, t)) {
                return t[thing];
            }
        }
        return NONE;
    }

    // ---- school

    int pupil(int age, int words, int number, int depth, int leaves) {
        boolean bad = age < 1 || age > 99 || words < 0 || words > 32767 || number < 0 || number > 99
                || depth < 0 || depth > 8 || leaves < 1 || leaves > 16 || s.pupils.size() == 6;
        if (bad) {
            return NONE;
        }
        s.pupils.add(new int[] {age, words, number, depth, leaves});
        return s.pupils.size() - 1;
    }

    boolean answer(int v) {
        if (Math.abs((long) v) > 1000000) {
            return false;
        }
        s.answer = v;
        return true;
    }

    int lacks(int p, int q) {
        if (!isP(p) || !isQ(q)) {
            return NONE;
        }
        int[] k = s.pupils.get(p);
        Question x = s.questions.get(q);
        int bits = x.words & ~k[1];
        bits += x.greatest > k[2] ? 32768 : 0;
        bits += x.depth > k[3] ? 65536 : 0;
        bits += x.leaves > k[4] ? 131072 : 0;
        return bits;
    }

    boolean can(int p, int q) {
        return lacks(p, q) == 0;
    }

    int barred(int q) {
        if (!isQ(q)) {
            return NONE;
        }
        int lowest = NONE;
        for (int[] a : s.asked) {
            if (like(a[1], q, s.equalities) && (lowest == NONE || a[1] < lowest)) {
                lowest = a[1];
            }
        }
        return lowest;
    }

    int why(int p, int q) {
        if (!isP(p) || !isQ(q)) {
            return NONE;
        }
        if (s.asked.stream().anyMatch(a -> a[0] == p)) {
            return 1;
        }
        return !can(p, q) ? 2 : worth(q) != s.answer ? 3 : barred(q) != NONE ? 4 : 0;
    }

    int ask(int p, int q) {
        if (why(p, q) != 0) {
            return NONE;
        }
        s.asked.add(new int[] {p, q});
        return s.asked.size();
    }

    boolean asksLowest(int p) {
        for (int q = 0; q < s.questions.size(); q++) {
            if (ask(p, q) != NONE) {
                return true;
            }
        }
        return false;
    }

    List<Integer> notAsked() {
        List<Integer> list = new ArrayList<>();
        for (int p = 0; p < s.pupils.size(); p++) {
            int who = p;
            if (s.asked.stream().noneMatch(a -> a[0] == who)) {
                list.add(p);
            }
        }
        return list;
    }

    int morning(int seed) {
        if (seed < NONE || seed > 9999) {
            return -2;
        }
        List<Integer> in = notAsked();
        int count = 0;
        int x = seed * 3 + 7;
        in.sort((a, b) -> seed != NONE ? a - b : s.pupils.get(a)[0] != s.pupils.get(b)[0]
                ? s.pupils.get(a)[0] - s.pupils.get(b)[0] : a - b);
        while (!in.isEmpty()) {
            int p = in.remove(seed == NONE ? 0 : x % in.size());
            x = (x * 131 + 89) % 30011;
            count += asksLowest(p) ? 1 : 0;
        }
        return count;
    }

    int stuck() {
        State before = s;
        s = s.copy();
        List<Integer> in = notAsked();
        in.sort((a, b) -> s.pupils.get(a)[0] != s.pupils.get(b)[0]
                ? s.pupils.get(a)[0] - s.pupils.get(b)[0] : a - b);
        int found = NONE;
        for (int p : in) {
            if (!asksLowest(p) && found == NONE) {
                found = p;
            }
        }
        s = before;
        return found;
    }

    int undo() {
        if (s.asked.isEmpty()) {
            return NONE;
        }
        s.asked.remove(s.asked.size() - 1);
        return s.asked.size();
    }

    int asked(int i, boolean question) {
        if (i == NONE) {
            return s.asked.size();
        }
        return i < 0 || i >= s.asked.size() ? NONE : s.asked.get(i)[question ? 1 : 0];
    }

    int left(int p) {
        int best = NONE;
        for (int q = 0; q < s.questions.size(); q++) {
            if (why(p, q) == 0 && (best == NONE || s.questions.get(q).leaves < s.questions.get(best).leaves)) {
                best = q;
            }
        }
        return best;
    }

    // ---- plans, by all orders

    static void orders(List<Integer> rest, List<Integer> head, List<List<Integer>> all) {
        if (rest.isEmpty()) {
            all.add(new ArrayList<>(head));
            return;
        }
        for (int i = 0; i < rest.size(); i++) {
            List<Integer> less = new ArrayList<>(rest);
            head.add(less.remove(i));
            orders(less, head, all);
            head.remove(head.size() - 1);
        }
    }

    /** Masks worked out once, since all orders are gone through with them. */
    int[] openMasks() {
        int[] open = new int[s.pupils.size()];
        for (int p = 0; p < open.length; p++) {
            for (int q = 0; q < s.questions.size(); q++) {
                open[p] |= can(p, q) && worth(q) == s.answer ? 1 << q : 0;
            }
        }
        return open;
    }

    int[] likeMasks() {
        int[] like = new int[s.questions.size()];
        for (int a = 0; a < like.length; a++) {
            for (int b = 0; b < like.length; b++) {
                like[a] |= like(a, b, s.equalities) ? 1 << b : 0;
            }
        }
        return like;
    }

    static int howMany(List<Integer> order, int[] open, int[] like) {
        int gone = 0;
        int count = 0;
        for (int p : order) {
            int can = open[p] & ~gone;
            if (can != 0) {
                gone |= like[Integer.numberOfTrailingZeros(can)];
                count++;
            }
        }
        return count;
    }

    List<List<Integer>> ordersOf(int set) {
        List<Integer> who = new ArrayList<>();
        for (int p = 0; p < s.pupils.size(); p++) {
            if (bit(set, p)) {
                who.add(p);
            }
        }
        List<List<Integer>> all = new ArrayList<>();
        orders(who, new ArrayList<>(), all);
        return all;
    }

    int order(int i) {
        int n = s.pupils.size();
        if (i < NONE || i >= n) {
            return -2;
        }
        int[] open = openMasks();
        int[] like = likeMasks();
        int most = 0;
        for (List<Integer> order : ordersOf((1 << n) - 1)) {
            int count = howMany(order, open, like);
            if (i >= 0 && count == n) {
                return order.get(i);
            }
            most = Math.max(most, count);
        }
        return i == NONE ? most : -2;
    }

    int shut() {
        int n = s.pupils.size();
        int[] open = openMasks();
        int[] like = likeMasks();
        for (int many = 0; many <= n; many++) {
            for (int out = 0; out < 1 << n; out++) {
                if (Integer.bitCount(out) != many) {
                    continue;
                }
                for (List<Integer> order : ordersOf((1 << n) - 1 & ~out)) {
                    if (howMany(order, open, like) == n - many) {
                        return out;
                    }
                }
            }
        }
        return -99;
    }

    boolean wins(int mine, int yours, int gone, int[] like, Map<Long, Boolean> known) {
        long state = ((long) (mine & ~gone) << 12 | yours & ~gone) << 12 | gone;
        Boolean old = known.get(state);
        if (old != null) {
            return old;
        }
        boolean win = false;
        for (int q = 0; q < like.length && !win; q++) {
            win = bit(mine & ~gone, q) && !wins(yours, mine, gone | like[q], like, known);
        }
        known.put(state, win);
        return win;
    }

    int game(int begins, int other, boolean first) {
        if (!isP(begins) || !isP(other) || begins == other) {
            return -2;
        }
        int[] open = openMasks();
        int[] like = likeMasks();
        Map<Long, Boolean> known = new HashMap<>();
        for (int q = 0; q < like.length; q++) {
            if (bit(open[begins], q) && !wins(open[other], open[begins], like[q], like, known)) {
                return first ? q : begins;
            }
        }
        return first ? NONE : other;
    }

    // ---- trees

    private final Map<String, List<TreeMap<Integer, Long>>> counted = new HashMap<>();

    /** counts.get(n): the values of trees of n leaves, and how many have each. */
    List<TreeMap<Integer, Long>> counts(int n, int m) {
        return counted.computeIfAbsent(Arrays.toString(s.things) + n + " " + m, k -> count(n, m));
    }

    private List<TreeMap<Integer, Long>> count(int n, int m) {
        List<TreeMap<Integer, Long>> all = new ArrayList<>();
        all.add(new TreeMap<>());
        TreeMap<Integer, Long> ones = new TreeMap<>();
        for (int i = 1; i <= m; i++) {
            ones.merge(i, 1L, Long::sum);
        }
        for (int t : s.things) {
            ones.merge(t, 1L, Long::sum);
        }
        all.add(ones);
        for (int k = 2; k <= n; k++) {
            TreeMap<Integer, Long> row = new TreeMap<>();
            for (int l = 1; l < k; l++) {
                for (Map.Entry<Integer, Long> x : all.get(l).entrySet()) {
                    for (Map.Entry<Integer, Long> y : all.get(k - l).entrySet()) {
                        for (int sign = 0; sign < 3; sign++) {
                            int v = joined(sign, x.getKey(), y.getKey());
                            if (Math.abs(v) <= 500) {
                                row.merge(v, x.getValue() * y.getValue(), Long::sum);
                            }
                        }
                    }
                }
            }
            all.add(row);
        }
        return all;
    }

    static int joined(int sign, int x, int y) {
        return sign == 0 ? x + y : sign == 1 ? x - y : x * y;
    }

    long kinds(int n, int m, int v) {
        if (n < 1 || n > 5 || m < 0 || m > 9 || v < -500 || v > 500) {
            return NONE;
        }
        return counts(n, m).get(n).getOrDefault(v, 0L);
    }

    static int fewestIn(List<TreeMap<Integer, Long>> all, int v) {
        for (int n = 1; n < all.size(); n++) {
            if (all.get(n).containsKey(v)) {
                return n;
            }
        }
        return NONE;
    }

    int fewest(int m, int v) {
        return m < 0 || m > 9 || v < -500 || v > 500 ? NONE : fewestIn(counts(5, m), v);
    }

    /** All first choices for a value, the least of them by the document's order. */
    void write(List<TreeMap<Integer, Long>> all, int m, int n, int v, List<Integer> out) {
        if (n == 1) {
            if (v >= 1 && v <= m) {
                out.add(v);
                return;
            }
            int t = 0;
            while (s.things[t] != v) {
                t++;
            }
            out.add(2000 + t);
            return;
        }
        List<int[]> choices = new ArrayList<>();
        for (int l = 1; l < n; l++) {
            for (int x : all.get(l).keySet()) {
                for (int y : all.get(n - l).keySet()) {
                    for (int sign = 0; sign < 3; sign++) {
                        if (joined(sign, x, y) == v) {
                            choices.add(new int[] {l, sign, x, y});
                        }
                    }
                }
            }
        }
        int[] best = choices.stream().min(Arrays::compare).get();
        out.add(1000 + best[1]);
        write(all, m, best[0], best[2], out);
        write(all, m, n - best[0], best[3], out);
    }

    int shortest(int m, int v, int i) {
        if (m < 0 || m > 9 || v < -500 || v > 500) {
            return NONE;
        }
        List<TreeMap<Integer, Long>> all = counts(5, m);
        int n = fewestIn(all, v);
        if (n == NONE) {
            return NONE;
        }
        List<Integer> out = new ArrayList<>();
        write(all, m, n, v, out);
        return i == NONE ? out.size() : i < 0 || i >= out.size() ? NONE : out.get(i);
    }

    int rarest(int n, int m, int low, int high) {
        if (n < 1 || n > 5 || m < 0 || m > 9 || Math.abs((long) low) > 500 || Math.abs((long) high) > 500) {
            return -1000;
        }
        int best = -1000;
        TreeMap<Integer, Long> row = counts(n, m).get(n);
        for (Map.Entry<Integer, Long> e : row.entrySet()) {
            boolean in = e.getKey() >= low && e.getKey() <= high;
            if (in && (best == -1000 || e.getValue() < row.get(best))) {
                best = e.getKey();
            }
        }
        return best;
    }

    int fair(int p, int low, int high) {
        if (!isP(p) || Math.abs((long) low) > 500 || Math.abs((long) high) > 500) {
            return -1000;
        }
        List<TreeMap<Integer, Long>> all = counts(5, Math.min(9, s.pupils.get(p)[2]));
        int best = -1000;
        int most = 0;
        for (int v = low; v <= high; v++) {
            int n = fewestIn(all, v);
            if (n <= s.pupils.get(p)[4] && n > most) {
                most = n;
                best = v;
            }
        }
        return best;
    }

    int unasked(int n, int m) {
        if (n < 1 || n > 5 || m < 0 || m > 9) {
            return NONE;
        }
        List<TreeMap<Integer, Long>> all = counts(n, m);
        for (int v = 0; v <= 500; v++) {
            if (fewestIn(all, v) == NONE) {
                return v;
            }
        }
        return NONE;
    }

    // ---- heard, told

    int hear(int p, int q) {
        if (p == NONE) {
            s.heard.clear();
            return 0;
        }
        if (!isP(p) || !isQ(q) || s.heard.size() == 8) {
            return -2;
        }
        s.heard.add(new int[] {p, q});
        return s.heard.size();
    }

    int worlds(int i) {
        int used = 0;
        for (int[] h : s.heard) {
            used |= s.questions.get(h[1]).words & 15;
        }
        List<Integer> found = new ArrayList<>();
        for (int w = 0; w < 10000; w++) {
            int[] t = {w / 1000, w / 100 % 10, w / 10 % 10, w % 10};
            boolean good = true;
            for (int k = 0; k < 4; k++) {
                good = good && (bit(used, k) || t[k] == 0);
            }
            for (int k = 1; k < s.heard.size() && good; k++) {
                int first = value(s.questions.get(s.heard.get(0)[1]).root, t);
                good = value(s.questions.get(s.heard.get(k)[1]).root, t) == first;
            }
            if (good) {
                found.add(w);
            }
        }
        return i == NONE ? found.size() : i < 0 || i >= found.size() ? NONE : found.get(i);
    }

    int knew(int p) {
        if (!isP(p)) {
            return NONE;
        }
        int words = 0;
        for (int[] h : s.heard) {
            words |= h[0] == p ? s.questions.get(h[1]).words : 0;
        }
        return words;
    }

    int tell(int q, int answer) {
        if (q == NONE) {
            s.told.clear();
            return 0;
        }
        if (!isQ(q) || Math.abs((long) answer) > 1000000 || s.told.size() == 12) {
            return -2;
        }
        s.told.add(new int[] {q, answer});
        return s.told.size();
    }

    int lies() {
        int bits = 0;
        for (int i = 0; i < s.told.size(); i++) {
            bits |= worth(s.told.get(i)[0]) != s.told.get(i)[1] ? 1 << i : 0;
        }
        return bits;
    }

    int clash() {
        for (int j = 0; j < s.told.size(); j++) {
            for (int i = 0; i < j; i++) {
                int[] a = s.told.get(i);
                int[] b = s.told.get(j);
                if (a[1] != b[1] && like(a[0], b[0], s.equalities)) {
                    return 12 * i + j;
                }
            }
        }
        return NONE;
    }

    int image() {
        saved = s.copy();
        return s.asked.size();
    }

    int back() {
        s = saved.copy();
        return s.asked.size();
    }

    int about(int what) {
        int[] counts = {s.questions.size(), s.people.size(), s.pupils.size(), s.answer, s.equalities,
            s.asked.size(), s.texts.size(), s.heard.size(), s.told.size(), tape.length()};
        if (what >= 0 && what < 10) {
            return counts[what];
        }
        int i = what % 10;
        if (what / 10 == 1 && what > 0 && i < 4) {
            return s.things[i];
        }
        if ((what / 10 == 2 || what / 10 == 4) && isP(i)) {
            return s.pupils.get(i)[what / 10 == 2 ? 0 : 1];
        }
        if (what / 10 == 3 && i < s.people.size()) {
            return s.people.get(i)[0];
        }
        return -2000000;
    }
}
