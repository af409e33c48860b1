import java.util.Arrays;

/**
 * Answers first: a school at which one is handed the answer and must ask its question.
 * The promises are in the project's document; README.md shows how to use the class.
 */
public final class AnswersFirst {
    public static final int NONE = -1;

    private static final int NOT_TOLD = -2;
    private static final int NOTHING = -2000000;
    private static final int NO_VALUE = -1000;
    private static final int BIGGEST = 1000000;

    private static final int THINGS = 4;
    private static final int MOST_PEOPLE = 8;
    private static final int TOWNS = 6;
    private static final int MOST_TEXTS = 4;
    private static final int MOST_BYTES = 300;
    private static final int GREATEST_NUMBER = 32767;
    private static final int MOST_CLAUSES = 24;
    private static final int CLAUSE_PARTS = 6;
    private static final int MOST_QUESTIONS = 12;
    private static final int MOST_PUPILS = 6;
    private static final int MOST_OPEN = 8;
    private static final int MOST_LEAVES = 16;
    private static final int MOST_HEARD = 8;
    private static final int MOST_TOLD = 12;

    private static final int SUMS_FALL_APART = 1;
    private static final int PRODUCTS_FALL_APART = 2;
    private static final int NO_ZEROS = 4;
    private static final int NO_ONES = 8;
    private static final int PAIRS_IN_ORDER = 16;
    private static final int CHOICES_IN_ORDER = 32;
    private static final int IFS_TURNED = 64;
    private static final int NUMBERS_WORKED = 128;
    private static final int ALL_EQUALITIES = 255;

    /** Eight open brackets with three levels for each, and three more without: no tree is as deep as this. */
    private static final int DEEPEST = 40;

    // What a node of a question is; the numbers stand in the order of III.
    private static final int NUMBER = 0;
    private static final int THING = 1;
    private static final int PLUS = 2;
    private static final int TIMES = 3;
    private static final int AGE = 4;
    private static final int KIDS = 5;
    private static final int KIN = 6;
    private static final int WAY = 7;
    private static final int MORE = 8;
    private static final int LESS = 9;
    private static final int IF = 10;

    // How the two of an if are compared, in the order told in II.
    private static final int BELOW = 0;
    private static final int AT_MOST = 1;
    private static final int ABOVE = 2;
    private static final int AT_LEAST = 3;
    private static final int EQUAL = 4;
    private static final int UNLIKE = 5;

    private static final int WORD_PLUS = 1 << 4;
    private static final int WORD_MINUS = 1 << 5;
    private static final int WORD_TIMES = 1 << 6;
    private static final int WORD_BRACKET = 1 << 7;
    private static final int WORD_AGE = 1 << 8;
    private static final int WORD_IF = 1 << 14;

    // What a token is: these, a sign by its place in SIGNS, a word by its place in WORDS.
    private static final int TOKEN_END = 0;
    private static final int TOKEN_BAD = 1;
    private static final int TOKEN_NUMBER = 2;
    private static final int FIRST_SIGN = 3;
    private static final String SIGNS = "<>=#+-*(),;?:";
    private static final int SIGN_BELOW = 3;
    private static final int SIGN_ABOVE = 4;
    private static final int SIGN_EQUAL = 5;
    private static final int SIGN_UNLIKE = 6;
    private static final int SIGN_PLUS = 7;
    private static final int SIGN_MINUS = 8;
    private static final int SIGN_TIMES = 9;
    private static final int SIGN_OPEN = 10;
    private static final int SIGN_CLOSE = 11;
    private static final int SIGN_COMMA = 12;
    private static final int SIGN_SEMICOLON = 13;
    private static final int SIGN_QUERY = 14;
    private static final int SIGN_COLON = 15;
    private static final int SIGN_AT_MOST = 16;
    private static final int SIGN_AT_LEAST = 17;
    private static final int FIRST_WORD = 20;
    private static final String WORDS =
            "ask let born path say pupil answer asks morning be of and to long knows deep age kids kin way more less if end p q r s ";
    private static final int TOKEN_ASK = 20;
    private static final int TOKEN_LET = 21;
    private static final int TOKEN_BORN = 22;
    private static final int TOKEN_PATH = 23;
    private static final int TOKEN_SAY = 24;
    private static final int TOKEN_PUPIL = 25;
    private static final int TOKEN_ANSWER = 26;
    private static final int TOKEN_ASKS = 27;
    private static final int TOKEN_MORNING = 28;
    private static final int TOKEN_BE = 29;
    private static final int TOKEN_OF = 30;
    private static final int TOKEN_AND = 31;
    private static final int TOKEN_TO = 32;
    private static final int TOKEN_LONG = 33;
    private static final int TOKEN_KNOWS = 34;
    private static final int TOKEN_DEEP = 35;
    private static final int TOKEN_AGE = 36;
    private static final int TOKEN_KIN = 38;
    private static final int TOKEN_LESS = 41;
    private static final int TOKEN_IF = 42;
    private static final int TOKEN_LAST = 43;
    private static final int TOKEN_P = 44;
    private static final int TOKEN_S = 47;

    // What follows a clause's first word: tokens, a number with the least and the greatest one told.
    private static final int[] FORM_BORN = {TOKEN_NUMBER, 0, 99};
    private static final int[] FORM_PARENTS = {TOKEN_OF, TOKEN_NUMBER, 0, 7, TOKEN_AND, TOKEN_NUMBER, 0, 7};
    private static final int[] FORM_PATH =
            {TOKEN_NUMBER, 0, 5, TOKEN_TO, TOKEN_NUMBER, 0, 5, TOKEN_LONG, TOKEN_NUMBER, 1, 99};
    private static final int[] FORM_SAY = {TOKEN_NUMBER, 0, 255};
    private static final int[] FORM_PUPIL = {
        TOKEN_NUMBER, 1, 99, TOKEN_KNOWS, TOKEN_NUMBER, 0, 32767, TOKEN_TO, TOKEN_NUMBER, 0, 99,
        TOKEN_DEEP, TOKEN_NUMBER, 0, 8, TOKEN_LONG, TOKEN_NUMBER, 1, 16};
    private static final int[] FORM_ANSWER = {TOKEN_NUMBER, 0, 9999};
    private static final int[] FORM_ASKS = {TOKEN_NUMBER, 0, 5, TOKEN_NUMBER, 0, 11};
    private static final int[] FORM_BE = {TOKEN_BE, TOKEN_NUMBER, 0, 99};
    private static final int[] FORM_NOTHING = {};

    private static final int CANT_STAND = 1;
    private static final int NUMBER_NOT_TOLD = 2;
    private static final int TOO_DEEP = 3;
    private static final int TOO_MANY_LEAVES = 4;
    private static final int TOO_MANY_CLAUSES = 5;

    private static final int TREE_LEAVES = 5;
    private static final int GREATEST_M = 9;
    private static final int WIDEST = 500;
    private static final int VALUES = 1001;
    private static final int FIRST_TREE_SIGN = 1000;
    private static final int FIRST_TREE_THING = 2000;

    private final World world = new World();
    private final Reader reader = new Reader();
    private final Script[] scripts = new Script[MOST_TEXTS];
    private int texts;
    private final Questions questions = new Questions();
    private final School school = new School();
    private final Plans plans = new Plans();
    private final Trees trees = new Trees();
    private final Hearsay hearsay = new Hearsay();
    private final Row saved = new Row();

    public AnswersFirst() {
        // a row of zeros is the image of a new object, so that nothing need be saved here
        for (int i = 0; i < MOST_TEXTS; i++) {
            scripts[i] = new Script();
        }
    }

    // ---- the world

    public boolean thing(int thing, int number) {
        if (!within(thing, 0, THINGS - 1) || !within(number, 0, 99)) {
            return false;
        }
        world.numbers[thing] = number;
        return true;
    }

    public int person(int age, int one, int other) {
        return world.addPerson(age, one, other);
    }

    public boolean road(int one, int other, int length) {
        return world.layRoad(one, other, length);
    }

    public int kin(int one, int other) {
        if (!within(one, 0, world.people - 1) || !within(other, 0, world.people - 1)) {
            return NOT_TOLD;
        }
        return world.kinOf(one, other);
    }

    public int way(int one, int other) {
        if (!within(one, 0, TOWNS - 1) || !within(other, 0, TOWNS - 1)) {
            return NOT_TOLD;
        }
        return world.wayOf(one, other);
    }

    // ---- texts

    public int feed(int a, int b, int c, int d, int e) {
        if (reader.tape.length + 20 > MOST_BYTES) {
            return NONE;
        }
        reader.tape.addWord(a);
        reader.tape.addWord(b);
        reader.tape.addWord(c);
        reader.tape.addWord(d);
        reader.tape.addWord(e);
        return reader.tape.length;
    }

    public int end(int n) {
        if (!within(n, 0, reader.tape.length)) {
            return NONE;
        }
        reader.tape.length = n;
        return n;
    }

    public int text() {
        if (texts >= MOST_TEXTS) {
            return NONE;
        }
        boolean good = reader.readScript(scripts[texts]);
        reader.tape.length = 0;
        if (!good) {
            return NONE;
        }
        texts++;
        return texts - 1;
    }

    public int fault(int what) {
        if (!reader.hasRead) {
            return NONE;
        }
        if (what == 0) {
            return reader.faultFound;
        }
        return what == 1 && reader.faultFound != 0 ? reader.faultPlace : NONE;
    }

    public int played(int text) {
        if (!within(text, 0, texts - 1)) {
            return NOT_TOLD;
        }
        Script script = scripts[text];
        if (script == null) {
            return NOT_TOLD;
        }
        for (int i = 0; i < script.clauses; i++) {
            if (script.sortOf(i) == TOKEN_ASKS || script.sortOf(i) == TOKEN_MORNING) {
                takeStock();
            }
            if (!perform(script, i)) {
                return i;
            }
        }
        return NONE;
    }

    private boolean perform(Script script, int clause) {
        int a = script.partOf(clause, 0);
        int b = script.partOf(clause, 1);
        int c = script.partOf(clause, 2);
        switch (script.sortOf(clause)) {
            case TOKEN_ASK:
                return questions.add(script, clause);
            case TOKEN_LET:
                return thing(a, b);
            case TOKEN_BORN:
                return person(a, b, c) != NONE;
            case TOKEN_PATH:
                return road(a, b, c);
            case TOKEN_SAY:
                return equalities(a);
            case TOKEN_PUPIL:
                return pupil(a, b, c, script.partOf(clause, 3), script.partOf(clause, 4)) != NONE;
            case TOKEN_ANSWER:
                return answer(a);
            case TOKEN_ASKS:
                return askNow(a, b) != NONE;
            default:
                return school.holdMorning(NONE, questions) >= 0;
        }
    }

    // ---- questions

    public boolean equalities(int bits) {
        if (!within(bits, 0, ALL_EQUALITIES)) {
            return false;
        }
        questions.setEqualities(bits);
        return true;
    }

    public int of(int question, int what) {
        if (!isQuestion(question)) {
            return NOTHING;
        }
        switch (what) {
            case 0:
                return questions.answerIn(question, world, world.numbers);
            case 1:
                return questions.leaves[question];
            case 2:
                return questions.depths[question];
            case 3:
                return questions.words[question];
            case 4:
                return questions.greatest[question];
            default:
                return NOTHING;
        }
    }

    public int alike(int one, int other) {
        if (!isQuestion(one) || !isQuestion(other)) {
            return NONE;
        }
        takeStock();
        return questions.areAlike(one, other) ? 1 : 0;
    }

    public int nearly(int one, int other) {
        if (!isQuestion(one) || !isQuestion(other)) {
            return NONE;
        }
        takeStock();
        return !questions.areAlike(one, other) && questions.areAlikeByAll(one, other) ? 1 : 0;
    }

    public int parted(int one, int other, int thing) {
        if (!isQuestion(one) || !isQuestion(other) || !within(thing, 0, THINGS - 1)) {
            return NONE;
        }
        return hearsay.findParting(one, other, questions, world) ? hearsay.numbers[thing] : NONE;
    }

    // ---- the school

    public int pupil(int age, int words, int number, int depth, int leaves) {
        boolean told = within(age, 1, 99) && within(words, 0, GREATEST_NUMBER) && within(number, 0, 99)
                && within(depth, 0, MOST_OPEN) && within(leaves, 1, MOST_LEAVES);
        return told ? school.addPupil(age, words, number, depth, leaves) : NONE;
    }

    public boolean answer(int v) {
        if (!within(v, -BIGGEST, BIGGEST)) {
            return false;
        }
        school.theAnswer = v;
        return true;
    }

    public boolean can(int pupil, int question) {
        return lacks(pupil, question) == 0;
    }

    public int lacks(int pupil, int question) {
        return isPupil(pupil) && isQuestion(question) ? school.lacking(pupil, question, questions) : NONE;
    }

    public int ask(int pupil, int question) {
        takeStock();
        return askNow(pupil, question);
    }

    private int askNow(int pupil, int question) {
        if (!isPupil(pupil) || !isQuestion(question) || school.hindrance(pupil, question, questions) != 0) {
            return NONE;
        }
        school.addStep(pupil, question);
        return school.steps;
    }

    public int why(int pupil, int question) {
        if (!isPupil(pupil) || !isQuestion(question)) {
            return NONE;
        }
        takeStock();
        return school.hindrance(pupil, question, questions);
    }

    public int barred(int question) {
        if (!isQuestion(question)) {
            return NONE;
        }
        takeStock();
        return school.barring(question, questions);
    }

    public int morning(int seed) {
        if (!within(seed, NONE, 9999)) {
            return NOT_TOLD;
        }
        takeStock();
        return school.holdMorning(seed, questions);
    }

    public int stuck() {
        takeStock();
        return school.firstPassedOver(questions);
    }

    /** Says and works out all questions as things now are: what the school looks at rests on it. */
    private void takeStock() {
        questions.sayAll();
        questions.workAll(world);
    }

    public int undo() {
        if (school.steps <= 0) {
            return NONE;
        }
        school.steps--;
        return school.steps;
    }

    public int asked(int i, boolean question) {
        if (i == NONE) {
            return school.steps;
        }
        if (!within(i, 0, school.steps - 1)) {
            return NONE;
        }
        return question ? school.stepQuestions[i] : school.stepPupils[i];
    }

    public int left(int pupil) {
        if (!isPupil(pupil)) {
            return NONE;
        }
        takeStock();
        return school.shortestNow(pupil, questions);
    }

    // ---- what could be, from nobody having asked

    public int order(int i) {
        if (!within(i, NONE, school.pupils - 1)) {
            return NOT_TOLD;
        }
        takeStock();
        plans.look(school, questions);
        if (i == NONE) {
            return plans.mostWhoCan();
        }
        return plans.findOrder() ? plans.order[i] : NOT_TOLD;
    }

    public int shut() {
        takeStock();
        plans.look(school, questions);
        return plans.fewestToShut();
    }

    public int game(int begins, int other, boolean first) {
        if (!isPupil(begins) || !isPupil(other) || begins == other) {
            return NOT_TOLD;
        }
        takeStock();
        plans.look(school, questions);
        int question = plans.winningStart(begins, other);
        if (first) {
            return question;
        }
        return question == NONE ? other : begins;
    }

    // ---- trees

    public long kinds(int n, int m, int v) {
        if (!within(n, 1, TREE_LEAVES) || !within(m, 0, GREATEST_M) || !within(v, -WIDEST, WIDEST)) {
            return NONE;
        }
        trees.prepare(m, n, world.numbers);
        return trees.countOf(m, n, v);
    }

    public int fewest(int m, int v) {
        if (!within(m, 0, GREATEST_M) || !within(v, -WIDEST, WIDEST)) {
            return NONE;
        }
        return trees.fewestLeaves(m, v, TREE_LEAVES, world.numbers);
    }

    public int shortest(int m, int v, int i) {
        int n = fewest(m, v);
        if (n == NONE || !within(i, NONE, 2 * n - 2)) {
            return NONE;
        }
        return i == NONE ? 2 * n - 1 : trees.signAt(m, n, v, i);
    }

    public int rarest(int n, int m, int low, int high) {
        if (!within(n, 1, TREE_LEAVES) || !within(m, 0, GREATEST_M) || !areValues(low, high)) {
            return NO_VALUE;
        }
        trees.prepare(m, n, world.numbers);
        return trees.rarestOf(m, n, low, high);
    }

    public int fair(int pupil, int low, int high) {
        if (!isPupil(pupil) || !areValues(low, high)) {
            return NO_VALUE;
        }
        int m = Math.min(school.numbers[pupil], GREATEST_M);
        int n = Math.min(school.leaves[pupil], TREE_LEAVES);
        return trees.longestOf(m, n, low, high, world.numbers);
    }

    public int unasked(int n, int m) {
        if (!within(n, 1, TREE_LEAVES) || !within(m, 0, GREATEST_M)) {
            return NONE;
        }
        for (int v = 0; v <= WIDEST; v++) {
            if (trees.fewestLeaves(m, v, n, world.numbers) == NONE) {
                return v;
            }
        }
        return NONE;
    }

    // ---- what was heard and told

    public int hear(int pupil, int question) {
        if (pupil == NONE) {
            hearsay.forgetHeard();
            return 0;
        }
        return isPupil(pupil) && isQuestion(question) ? hearsay.addHeard(pupil, question) : NOT_TOLD;
    }

    public int worlds(int i) {
        int count = hearsay.countWorlds(questions, world);
        if (i == NONE) {
            return count;
        }
        return within(i, 0, count - 1) ? hearsay.found[i] : NONE;
    }

    public int knew(int pupil) {
        return isPupil(pupil) ? hearsay.wordsHeard(pupil, questions) : NONE;
    }

    public int tell(int question, int answer) {
        if (question == NONE) {
            hearsay.told = 0;
            return 0;
        }
        boolean good = isQuestion(question) && within(answer, -BIGGEST, BIGGEST);
        return good ? hearsay.addTold(question, answer) : NOT_TOLD;
    }

    public int lies() {
        takeStock();
        return hearsay.liesIn(questions);
    }

    public int clash() {
        takeStock();
        return hearsay.firstClash(questions);
    }

    // ---- the image

    public int image() {
        saveAll();
        return school.steps;
    }

    public int back() {
        saved.rewind();
        texts = saved.take();
        world.restore(saved);
        questions.restore(saved);
        school.restore(saved);
        hearsay.restore(saved);
        return school.steps;
    }

    private void saveAll() {
        saved.rewind();
        saved.put(texts);
        world.save(saved);
        questions.save(saved);
        school.save(saved);
        hearsay.save(saved);
    }

    public int about(int what) {
        if (what < 10) {
            return amountOf(what);
        }
        if (within(what, 10, 10 + THINGS - 1)) {
            return world.numbers[what - 10];
        }
        if (within(what, 20, 20 + school.pupils - 1)) {
            return school.ages[what - 20];
        }
        if (within(what, 30, 30 + world.people - 1)) {
            return world.ages[what - 30];
        }
        if (within(what, 40, 40 + school.pupils - 1)) {
            return school.words[what - 40];
        }
        return NOTHING;
    }

    private int amountOf(int what) {
        switch (what) {
            case 0:
                return questions.count;
            case 1:
                return world.people;
            case 2:
                return school.pupils;
            case 3:
                return school.theAnswer;
            case 4:
                return questions.equalityBits;
            case 5:
                return school.steps;
            case 6:
                return texts;
            case 7:
                return hearsay.heard;
            case 8:
                return hearsay.told;
            case 9:
                return reader.tape.length;
            default:
                return NOTHING;
        }
    }

    private boolean isQuestion(int question) {
        return within(question, 0, questions.count - 1);
    }

    private boolean isPupil(int pupil) {
        return within(pupil, 0, school.pupils - 1);
    }

    private static boolean areValues(int low, int high) {
        return within(low, -WIDEST, WIDEST) && within(high, -WIDEST, WIDEST);
    }

    private static boolean within(int number, int least, int greatest) {
        return number >= least && number <= greatest;
    }

    private static int clamped(long number) {
        if (number > BIGGEST) {
            return BIGGEST;
        }
        return number < -BIGGEST ? -BIGGEST : (int) number;
    }

    /**
     * The numbers of an image, one behind the other. Texts, questions, people and pupils are only
     * ever added between two images, so that of them the image needs nothing but how many there are.
     */
    private static final class Row {
        private final int[] cells = new int[128];
        private int at;

        void rewind() {
            at = 0;
        }

        void put(int number) {
            if (at < cells.length) {
                cells[at] = number;
                at++;
            }
        }

        int take() {
            if (at >= cells.length) {
                return 0;
            }
            at++;
            return cells[at - 1];
        }

        void putAll(int[] numbers) {
            for (int i = 0; i < numbers.length; i++) {
                put(numbers[i]);
            }
        }

        void takeAll(int[] numbers) {
            for (int i = 0; i < numbers.length; i++) {
                numbers[i] = take();
            }
        }
    }

    /** Things, people and roads, and what a question comes to among them. */
    private static final class World {
        final int[] numbers = new int[THINGS];
        final int[] ages = new int[MOST_PEOPLE];
        private final int[] ones = new int[MOST_PEOPLE];
        private final int[] others = new int[MOST_PEOPLE];
        int people;
        private final int[] roads = new int[TOWNS * TOWNS];
        private final int[] kinSteps = new int[MOST_PEOPLE * MOST_PEOPLE];
        private final int[] wayLengths = new int[TOWNS * TOWNS];
        private final int[] children = new int[MOST_PEOPLE];
        /** By node: what it comes to, while a question is worked out. */
        private final int[] results = new int[MOST_BYTES];
        /** Grows whenever kin or ways may be others than before. */
        int version;

        World() {
            measureKin();
            measureWays();
        }

        int addPerson(int age, int one, int other) {
            boolean told = within(age, 0, 99) && within(one, NONE, people - 1) && within(other, NONE, people - 1);
            if (!told || people >= MOST_PEOPLE || (one == other && one != NONE)) {
                return NONE;
            }
            ages[people] = age;
            ones[people] = one;
            others[people] = other;
            people++;
            measureKin();
            return people - 1;
        }

        boolean layRoad(int one, int other, int length) {
            boolean told = within(one, 0, TOWNS - 1) && within(other, 0, TOWNS - 1) && within(length, 1, 99);
            if (!told || one == other) {
                return false;
            }
            roads[one * TOWNS + other] = length;
            roads[other * TOWNS + one] = length;
            measureWays();
            return true;
        }

        int kinOf(int one, int other) {
            boolean told = within(one, 0, people - 1) && within(other, 0, people - 1);
            return told ? kinSteps[one * MOST_PEOPLE + other] : NONE;
        }

        int wayOf(int one, int other) {
            boolean told = within(one, 0, TOWNS - 1) && within(other, 0, TOWNS - 1);
            return told ? wayLengths[one * TOWNS + other] : NONE;
        }

        private void measureKin() {
            Arrays.fill(kinSteps, NONE);
            Arrays.fill(children, 0);
            for (int i = 0; i < people; i++) {
                joinParent(i, ones[i]);
                joinParent(i, others[i]);
            }
            closeTable(kinSteps, MOST_PEOPLE);
            version++;
        }

        private void joinParent(int child, int parent) {
            if (within(parent, 0, people - 1)) {
                kinSteps[child * MOST_PEOPLE + parent] = 1;
                kinSteps[parent * MOST_PEOPLE + child] = 1;
                children[parent]++;
            }
        }

        private void measureWays() {
            for (int i = 0; i < TOWNS * TOWNS; i++) {
                wayLengths[i] = roads[i] > 0 ? roads[i] : NONE;
            }
            closeTable(wayLengths, TOWNS);
            version++;
        }

        /** From single steps (NONE: none) to the least lengths together, over each in between in turn. */
        private static void closeTable(int[] table, int size) {
            if (table.length < size * size) {
                return;
            }
            for (int i = 0; i < size; i++) {
                table[i * size + i] = 0;
            }
            for (int by = 0; by < size; by++) {
                for (int i = 0; i < size; i++) {
                    for (int j = 0; j < size; j++) {
                        int first = table[i * size + by];
                        int second = table[by * size + j];
                        int now = table[i * size + j];
                        if (first != NONE && second != NONE && (now == NONE || first + second < now)) {
                            table[i * size + j] = first + second;
                        }
                    }
                }
            }
        }

        /** Works out the nodes from the first to the root, in their order: each one stands behind its parts. */
        int workOut(Nodes nodes, int first, int root, int[] things) {
            if (first < 0 || first > root || root >= nodes.size) {
                return 0;
            }
            for (int node = first; node <= root; node++) {
                int value = nodes.values[node];
                switch (nodes.kinds[node]) {
                    case NUMBER:
                        results[node] = value;
                        break;
                    case THING:
                        results[node] = value >= 0 && value < things.length ? things[value] : 0;
                        break;
                    case PLUS:
                        results[node] = sumOf(nodes, node);
                        break;
                    case TIMES:
                        results[node] = productOf(nodes, node);
                        break;
                    default:
                        results[node] = workWord(nodes, node);
                }
            }
            return results[root];
        }

        private int sumOf(Nodes nodes, int node) {
            int sum = 0;
            int part = nodes.firsts[node];
            for (int i = nodes.counts[node]; i > 0 && part >= 0 && part < node; i--) {
                sum += nodes.signs[part] < 0 ? -results[part] : results[part];
                if (sum > BIGGEST || sum < -BIGGEST) {
                    sum = clamped(sum);
                }
                part = nodes.nexts[part];
            }
            return sum;
        }

        private int productOf(Nodes nodes, int node) {
            long product = 1;
            int part = nodes.firsts[node];
            for (int i = nodes.counts[node]; i > 0 && part >= 0 && part < node; i--) {
                product *= results[part];
                if (product > BIGGEST || product < -BIGGEST) {
                    product = clamped(product);
                }
                part = nodes.nexts[part];
            }
            return (int) product;
        }

        private int workWord(Nodes nodes, int node) {
            int first = nodes.firsts[node];
            int one = resultOf(first, node);
            int second = nodes.behind(first);
            int other = resultOf(second, node);
            switch (nodes.kinds[node]) {
                case AGE:
                    return within(one, 0, people - 1) ? ages[one] : NONE;
                case KIDS:
                    return within(one, 0, people - 1) ? children[one] : NONE;
                case KIN:
                    return kinOf(one, other);
                case WAY:
                    return wayOf(one, other);
                case MORE:
                    return Math.max(one, other);
                case LESS:
                    return Math.min(one, other);
                default: {
                    int third = nodes.behind(second);
                    boolean chosen = holds(nodes.values[node], one, other);
                    return resultOf(chosen ? third : nodes.behind(third), node);
                }
            }
        }

        private int resultOf(int part, int node) {
            return part >= 0 && part < node && part < results.length ? results[part] : 0;
        }

        private static boolean holds(int comparison, int one, int other) {
            switch (comparison) {
                case BELOW:
                    return one < other;
                case AT_MOST:
                    return one <= other;
                case ABOVE:
                    return one > other;
                case AT_LEAST:
                    return one >= other;
                case EQUAL:
                    return one == other;
                default:
                    return one != other;
            }
        }

        void save(Row row) {
            row.putAll(numbers);
            row.put(people);
            row.putAll(roads);
        }

        void restore(Row row) {
            row.takeAll(numbers);
            people = Math.max(0, Math.min(row.take(), MOST_PEOPLE));
            row.takeAll(roads);
            measureKin();
            measureWays();
        }
    }

    /**
     * Trees of questions in rows: each node with its kind, its value (a number, a thing, a comparison),
     * its sign in a sum, and the chain of its parts. A node takes a byte of its text at least, so that
     * a text never needs more nodes than a tape has bytes. As they are read, all stand behind their parts.
     */
    private static final class Nodes {
        final int[] kinds = new int[MOST_BYTES];
        final int[] values = new int[MOST_BYTES];
        private final int[] signs = new int[MOST_BYTES];
        private final int[] counts = new int[MOST_BYTES];
        private final int[] firsts = new int[MOST_BYTES];
        private final int[] lasts = new int[MOST_BYTES];
        private final int[] nexts = new int[MOST_BYTES];
        private final int[] row = new int[MOST_LEAVES];
        int size;

        int make(int kind, int value) {
            if (size >= MOST_BYTES) {
                return NONE;
            }
            kinds[size] = kind;
            values[size] = value;
            signs[size] = 1;
            counts[size] = 0;
            firsts[size] = NONE;
            lasts[size] = NONE;
            nexts[size] = NONE;
            size++;
            return size - 1;
        }

        /** Makes a node that there is another one, without parts. */
        private void become(int node, int kind, int value) {
            if (node >= 0 && node < size) {
                kinds[node] = kind;
                values[node] = value;
                counts[node] = 0;
                firsts[node] = NONE;
                lasts[node] = NONE;
            }
        }

        /** Chains a part behind another one, for a whole that is made later. */
        void link(int ahead, int part, int sign) {
            if (ahead >= 0 && ahead < size && part >= 0 && part < size) {
                nexts[ahead] = part;
                signs[part] = sign;
            }
        }

        /** Makes a whole of parts that are chained. */
        int makeOf(int kind, int first, int last, int count) {
            int whole = make(kind, 0);
            if (whole != NONE) {
                firsts[whole] = first;
                lasts[whole] = last;
                counts[whole] = count;
            }
            return whole;
        }

        private void setValue(int node, int value) {
            if (node >= 0 && node < size) {
                values[node] = value;
            }
        }

        private void dropParts(int node) {
            if (node >= 0 && node < size) {
                counts[node] = 0;
                firsts[node] = NONE;
                lasts[node] = NONE;
            }
        }

        void append(int whole, int part, int sign) {
            if (whole < 0 || whole >= size || part < 0 || part >= size) {
                return;
            }
            int last = lasts[whole];
            if (last >= 0 && last < size) {
                nexts[last] = part;
            } else {
                firsts[whole] = part;
            }
            lasts[whole] = part;
            nexts[part] = NONE;
            signs[part] = sign;
            counts[whole]++;
        }

        int kindOf(int node) {
            return node >= 0 && node < size ? kinds[node] : NONE;
        }

        int valueOf(int node) {
            return node >= 0 && node < size ? values[node] : 0;
        }

        int signOf(int node) {
            return node >= 0 && node < size ? signs[node] : 1;
        }

        int partsOf(int node) {
            return node >= 0 && node < size ? counts[node] : 0;
        }

        int firstOf(int node) {
            return node >= 0 && node < size ? firsts[node] : NONE;
        }

        int behind(int node) {
            return node >= 0 && node < size ? nexts[node] : NONE;
        }

        /** Says a node of another tree in this one, by the equalities, its parts first: the node here. */
        private int say(Nodes from, int node, int bits, int depth) {
            if (node < 0 || node >= from.size || depth > DEEPEST) {
                return NONE;
            }
            int made = make(from.kindOf(node), from.valueOf(node));
            int part = from.firstOf(node);
            for (int i = 0; i < from.partsOf(node); i++) {
                adopt(made, say(from, part, bits, depth + 1), from.signOf(part), bits);
                part = from.behind(part);
            }
            return change(made, bits);
        }

        private void adopt(int whole, int part, int sign, int bits) {
            int kind = kindOf(part);
            boolean apart = (kind == PLUS && (bits & SUMS_FALL_APART) != 0)
                    || (kind == TIMES && (bits & PRODUCTS_FALL_APART) != 0);
            if (!apart || kindOf(whole) != kind) {
                append(whole, part, sign);
                return;
            }
            int pieces = partsOf(part);
            int piece = firstOf(part);
            for (int i = 0; i < pieces; i++) {
                int next = behind(piece);
                append(whole, piece, sign * signOf(piece));
                piece = next;
            }
        }

        private int change(int node, int bits) {
            switch (kindOf(node)) {
                case PLUS:
                    leaveOut(node, 0, bits & NO_ZEROS);
                    workNumbers(node, bits);
                    sortParts(node, bits & SUMS_FALL_APART);
                    return aloneOr(node);
                case TIMES:
                    leaveOut(node, 1, bits & NO_ONES);
                    workNumbers(node, bits);
                    sortParts(node, bits & PRODUCTS_FALL_APART);
                    return aloneOr(node);
                case KIN:
                case WAY:
                    sortParts(node, bits & PAIRS_IN_ORDER);
                    return node;
                case MORE:
                case LESS:
                    workNumbers(node, bits);
                    sortParts(node, bits & CHOICES_IN_ORDER);
                    return eitherOr(node, bits);
                case IF:
                    return changeIf(node, bits);
                default:
                    return node;
            }
        }

        private int aloneOr(int node) {
            int first = firstOf(node);
            return partsOf(node) == 1 && signOf(first) > 0 ? first : node;
        }

        private void leaveOut(int node, int number, int told) {
            if (told == 0) {
                return;
            }
            int parts = collectParts(node);
            dropParts(node);
            for (int i = 0; i < parts; i++) {
                if (kindOf(row[i]) != NUMBER || valueOf(row[i]) != number) {
                    append(node, row[i], signOf(row[i]));
                }
            }
            if (partsOf(node) == 0) {
                become(node, NUMBER, number);
            }
        }

        /** The parts into the row, since a chain that is being changed can't be walked along. */
        private int collectParts(int node) {
            int parts = Math.min(partsOf(node), row.length);
            int part = firstOf(node);
            for (int i = 0; i < parts; i++) {
                row[i] = part;
                part = behind(part);
            }
            return parts;
        }

        private void chainParts(int node, int parts) {
            dropParts(node);
            for (int i = 0; i < parts && i < row.length; i++) {
                append(node, row[i], signOf(row[i]));
            }
        }

        private void workNumbers(int node, int bits) {
            int kind = kindOf(node);
            int part = firstOf(node);
            if ((bits & NUMBERS_WORKED) == 0 || partsOf(node) == 0) {
                return;
            }
            long result = kind == PLUS ? 0 : kind == TIMES ? 1 : valueOf(part);
            for (int i = 0; i < partsOf(node); i++) {
                if (kindOf(part) != NUMBER) {
                    return;
                }
                result = workedWith(kind, result, (long) signOf(part) * valueOf(part));
                part = behind(part);
            }
            become(node, NUMBER, (int) result);
        }

        private static int workedWith(int kind, long sofar, long number) {
            switch (kind) {
                case PLUS:
                    return clamped(sofar + number);
                case TIMES:
                    return clamped(sofar * number);
                case MORE:
                    return clamped(Math.max(sofar, number));
                default:
                    return clamped(Math.min(sofar, number));
            }
        }

        private void sortParts(int node, int told) {
            if (told == 0 || partsOf(node) < 2) {
                return;
            }
            int parts = collectParts(node);
            for (int i = 1; i < parts; i++) {
                int part = row[i];
                int j = i;
                while (j > 0 && orderOfTerms(this, row[j - 1], this, part, 0) > 0) {
                    row[j] = row[j - 1];
                    j--;
                }
                row[j] = part;
            }
            chainParts(node, parts);
        }

        private int eitherOr(int node, int bits) {
            int first = firstOf(node);
            boolean told = partsOf(node) == 2 && (bits & CHOICES_IN_ORDER) != 0;
            return told && orderOf(this, first, this, behind(first), 0) == 0 ? first : node;
        }

        private int changeIf(int node, int bits) {
            if ((bits & IFS_TURNED) == 0 || collectParts(node) < 4) {
                return node;
            }
            if (valueOf(node) == ABOVE || valueOf(node) == AT_LEAST) {
                setValue(node, valueOf(node) == ABOVE ? BELOW : AT_MOST);
                int first = row[0];
                row[0] = row[1];
                row[1] = first;
                chainParts(node, 4);
            }
            return orderOf(this, row[2], this, row[3], 0) == 0 ? row[2] : node;
        }

        /** Below 0: the first stands ahead in the order of what is said; 0: they are said alike. */
        private static int orderOf(Nodes a, int x, Nodes b, int y, int depth) {
            if (depth > DEEPEST || x < 0 || x >= a.size || y < 0 || y >= b.size) {
                return 0;
            }
            if (a.kinds[x] != b.kinds[y]) {
                return Integer.compare(a.kinds[x], b.kinds[y]);
            }
            if (a.values[x] != b.values[y]) {
                return Integer.compare(a.values[x], b.values[y]);
            }
            if (a.counts[x] != b.counts[y]) {
                return Integer.compare(a.counts[x], b.counts[y]);
            }
            int order = 0;
            int one = a.firsts[x];
            int other = b.firsts[y];
            for (int i = 0; i < a.counts[x] && order == 0; i++) {
                order = orderOfTerms(a, one, b, other, depth + 1);
                one = a.behind(one);
                other = b.behind(other);
            }
            return order;
        }

        /** As orderOf, but those with + ahead of those with -. */
        private static int orderOfTerms(Nodes a, int x, Nodes b, int y, int depth) {
            int order = Integer.compare(b.signOf(y), a.signOf(x));
            return order != 0 ? order : orderOf(a, x, b, y, depth);
        }
    }

    /** A text that was read: its clauses, and the trees of the questions in it. */
    private static final class Script {
        private final int[] sorts = new int[MOST_CLAUSES];
        private final int[] parts = new int[MOST_CLAUSES * CLAUSE_PARTS];
        private int given;
        int clauses;
        final Nodes nodes = new Nodes();

        void empty() {
            clauses = 0;
            given = 0;
            nodes.size = 0;
        }

        void beginClause(int sort) {
            if (clauses < MOST_CLAUSES) {
                sorts[clauses] = sort;
                given = 0;
                for (int i = 0; i < CLAUSE_PARTS; i++) {
                    parts[clauses * CLAUSE_PARTS + i] = NONE;
                }
            }
        }

        void give(int number) {
            if (clauses < MOST_CLAUSES && given < CLAUSE_PARTS) {
                parts[clauses * CLAUSE_PARTS + given] = number;
                given++;
            }
        }

        int sortOf(int clause) {
            return within(clause, 0, clauses - 1) ? sorts[clause] : TOKEN_BAD;
        }

        int partOf(int clause, int part) {
            boolean stands = within(clause, 0, clauses - 1) && within(part, 0, CLAUSE_PARTS - 1);
            return stands ? parts[clause * CLAUSE_PARTS + part] : NONE;
        }
    }

    /** The tape, the tokens that it was split into, and the one that is looked at. */
    private static final class Tape {
        private final int[] bytes = new int[MOST_BYTES];
        int length;
        private final int[] sorts = new int[MOST_BYTES + 1];
        private final int[] starts = new int[MOST_BYTES + 1];
        private final int[] values = new int[MOST_BYTES + 1];
        private int tokens;
        private int at;
        int sort;
        int start;
        int number;

        void addWord(int word) {
            for (int shift = 24; shift >= 0; shift -= 8) {
                if (length < MOST_BYTES) {
                    bytes[length] = (word >>> shift) & 255;
                    length++;
                }
            }
        }

        /** Splits all of it, and looks at the first token. */
        void split() {
            tokens = 0;
            int place = 0;
            for (int i = 0; i < MOST_BYTES && place < length; i++) {
                boolean blank = byteAt(place) == ' ' || byteAt(place) == '\n';
                place = blank ? place + 1 : takeToken(place);
            }
            addToken(TOKEN_END, length, 0);
            at = NONE;
            advance();
        }

        /** Looks at the next token; the last one, the end, is never passed. */
        void advance() {
            if (at + 1 < tokens) {
                at++;
                sort = sorts[at];
                start = starts[at];
                number = values[at];
            }
        }

        private void addToken(int what, int place, int value) {
            if (tokens < sorts.length) {
                sorts[tokens] = what;
                starts[tokens] = place;
                values[tokens] = value;
                tokens++;
            }
        }

        private int byteAt(int place) {
            return place >= 0 && place < length && place < MOST_BYTES ? bytes[place] : NONE;
        }

        private static boolean isDigit(int sign) {
            return sign >= '0' && sign <= '9';
        }

        private static boolean isLetter(int sign) {
            return (sign >= 'a' && sign <= 'z') || (sign >= 'A' && sign <= 'Z');
        }

        private int takeToken(int first) {
            int sign = byteAt(first);
            if (isDigit(sign)) {
                return takeNumber(first);
            }
            return isLetter(sign) ? takeLetters(first) : takeSign(first);
        }

        private int takeNumber(int first) {
            int value = 0;
            int place = first;
            while (place < length && isDigit(byteAt(place))) {
                // beyond the greatest number it is all one how far: none is told so high
                value = Math.min(value * 10 + byteAt(place) - '0', GREATEST_NUMBER + 1);
                place++;
            }
            addToken(TOKEN_NUMBER, first, value);
            return place;
        }

        private int takeLetters(int first) {
            int place = first;
            while (place < length && isLetter(byteAt(place))) {
                place++;
            }
            addToken(sortOfLetters(first, place), first, 0);
            return place;
        }

        private int sortOfLetters(int first, int behind) {
            int word = 0;
            int letter = 0;
            boolean same = true;
            for (int i = 0; i < WORDS.length(); i++) {
                if (WORDS.charAt(i) != ' ') {
                    same = same && WORDS.charAt(i) == byteAt(first + letter);
                    letter++;
                } else if (same && letter == behind - first) {
                    return FIRST_WORD + word;
                } else {
                    word++;
                    letter = 0;
                    same = true;
                }
            }
            return TOKEN_BAD;
        }

        private int takeSign(int first) {
            int sign = byteAt(first);
            if (byteAt(first + 1) == '=' && (sign == '<' || sign == '>')) {
                addToken(sign == '<' ? SIGN_AT_MOST : SIGN_AT_LEAST, first, 0);
                return first + 2;
            }
            int place = SIGNS.indexOf((char) sign);
            addToken(place < 0 ? TOKEN_BAD : FIRST_SIGN + place, first, 0);
            return first + 1;
        }
    }

    /** Reads the tape as a script, up to its first fault. */
    private static final class Reader {
        final Tape tape = new Tape();
        boolean hasRead;
        int faultFound;
        int faultPlace;
        private int leaves;
        private int deepest;
        private int words;
        private int greatest;

        boolean readScript(Script script) {
            if (script == null) {
                return false;
            }
            hasRead = true;
            faultFound = 0;
            faultPlace = NONE;
            script.empty();
            tape.split();
            for (int i = 0; i <= MOST_CLAUSES && tape.sort != TOKEN_END; i++) {
                int sort = tape.sort;
                if (!beginClause(script) || !readRest(script, sort) || !expect(SIGN_SEMICOLON)) {
                    return false;
                }
                script.clauses++;
            }
            return true;
        }

        private int fail(int fault) {
            faultFound = fault;
            faultPlace = tape.start;
            return NONE;
        }

        private boolean beginClause(Script script) {
            if (!within(tape.sort, TOKEN_ASK, TOKEN_MORNING)) {
                return fail(CANT_STAND) != NONE;
            }
            if (script.clauses >= MOST_CLAUSES) {
                return fail(TOO_MANY_CLAUSES) != NONE;
            }
            script.beginClause(tape.sort);
            tape.advance();
            return true;
        }

        private boolean readRest(Script script, int sort) {
            switch (sort) {
                case TOKEN_ASK:
                    return readQuestion(script);
                case TOKEN_LET:
                    return readThing(script) && follow(script, FORM_BE);
                case TOKEN_BORN:
                    return follow(script, FORM_BORN) && (tape.sort != TOKEN_OF || follow(script, FORM_PARENTS));
                case TOKEN_PATH:
                    return follow(script, FORM_PATH);
                case TOKEN_SAY:
                    return follow(script, FORM_SAY);
                case TOKEN_PUPIL:
                    return follow(script, FORM_PUPIL);
                case TOKEN_ANSWER:
                    return follow(script, FORM_ANSWER);
                case TOKEN_ASKS:
                    return follow(script, FORM_ASKS);
                default:
                    return follow(script, FORM_NOTHING);
            }
        }

        private boolean expect(int sort) {
            if (tape.sort != sort) {
                return fail(CANT_STAND) != NONE;
            }
            tape.advance();
            return true;
        }

        private boolean follow(Script script, int[] form) {
            for (int i = 0; i < form.length; i++) {
                if (tape.sort != form[i]) {
                    return fail(CANT_STAND) != NONE;
                }
                if (form[i] == TOKEN_NUMBER && i + 2 < form.length) {
                    if (!within(tape.number, form[i + 1], form[i + 2])) {
                        return fail(NUMBER_NOT_TOLD) != NONE;
                    }
                    script.give(tape.number);
                    i += 2;
                }
                tape.advance();
            }
            return true;
        }

        private boolean readThing(Script script) {
            if (!within(tape.sort, TOKEN_P, TOKEN_S)) {
                return fail(CANT_STAND) != NONE;
            }
            script.give(tape.sort - TOKEN_P);
            tape.advance();
            return true;
        }

        private boolean readQuestion(Script script) {
            leaves = 0;
            deepest = 0;
            words = 0;
            greatest = NONE;
            int first = script.nodes.size;
            int root = readSum(script.nodes, 0);
            if (root == NONE) {
                return false;
            }
            script.give(first);
            script.give(root);
            script.give(leaves);
            script.give(deepest);
            script.give(words);
            script.give(greatest);
            return true;
        }

        private int readSum(Nodes nodes, int open) {
            int first = readProduct(nodes, open);
            if (first == NONE || (tape.sort != SIGN_PLUS && tape.sort != SIGN_MINUS)) {
                return first;
            }
            int last = first;
            int terms = 1;
            for (int i = 0; i < MOST_BYTES && (tape.sort == SIGN_PLUS || tape.sort == SIGN_MINUS); i++) {
                int sign = tape.sort == SIGN_PLUS ? 1 : -1;
                words |= sign > 0 ? WORD_PLUS : WORD_MINUS;
                tape.advance();
                int term = readProduct(nodes, open);
                if (term == NONE) {
                    return NONE;
                }
                nodes.link(last, term, sign);
                last = term;
                terms++;
            }
            return nodes.makeOf(PLUS, first, last, terms);
        }

        private int readProduct(Nodes nodes, int open) {
            int first = readOne(nodes, open);
            if (first == NONE || tape.sort != SIGN_TIMES) {
                return first;
            }
            int last = first;
            int factors = 1;
            words |= WORD_TIMES;
            for (int i = 0; i < MOST_BYTES && tape.sort == SIGN_TIMES; i++) {
                tape.advance();
                int factor = readOne(nodes, open);
                if (factor == NONE) {
                    return NONE;
                }
                nodes.link(last, factor, 1);
                last = factor;
                factors++;
            }
            return nodes.makeOf(TIMES, first, last, factors);
        }

        private int readOne(Nodes nodes, int open) {
            int sort = tape.sort;
            if (sort == TOKEN_NUMBER || within(sort, TOKEN_P, TOKEN_S)) {
                return readLeaf(nodes);
            }
            if (sort == SIGN_OPEN) {
                return readBracket(nodes, open);
            }
            if (within(sort, TOKEN_AGE, TOKEN_LESS)) {
                return readWordOf(nodes, open);
            }
            return sort == TOKEN_IF ? readIf(nodes, open) : fail(CANT_STAND);
        }

        private int readLeaf(Nodes nodes) {
            boolean number = tape.sort == TOKEN_NUMBER;
            if (number && tape.number > 99) {
                return fail(NUMBER_NOT_TOLD);
            }
            if (leaves >= MOST_LEAVES) {
                return fail(TOO_MANY_LEAVES);
            }
            leaves++;
            int value = number ? tape.number : tape.sort - TOKEN_P;
            if (number) {
                greatest = Math.max(greatest, value);
            } else {
                words |= 1 << value;
            }
            tape.advance();
            return nodes.make(number ? NUMBER : THING, value);
        }

        /** Goes past a ( or an if, unless it is one too many around one another. */
        private boolean enter(int sort, int open) {
            if (tape.sort == sort && open >= MOST_OPEN) {
                return fail(TOO_DEEP) != NONE;
            }
            deepest = Math.max(deepest, open + 1);
            return expect(sort);
        }

        private int readBracket(Nodes nodes, int open) {
            if (!enter(SIGN_OPEN, open)) {
                return NONE;
            }
            words |= WORD_BRACKET;
            int inside = readSum(nodes, open + 1);
            return inside != NONE && expect(SIGN_CLOSE) ? inside : NONE;
        }

        private int readWordOf(Nodes nodes, int open) {
            int place = tape.sort - TOKEN_AGE;
            boolean ofTwo = tape.sort >= TOKEN_KIN;
            tape.advance();
            if (!enter(SIGN_OPEN, open)) {
                return NONE;
            }
            words |= WORD_AGE << place;
            int one = readSum(nodes, open + 1);
            int other = ofTwo && one != NONE && expect(SIGN_COMMA) ? readSum(nodes, open + 1) : NONE;
            if ((ofTwo ? other : one) == NONE || !expect(SIGN_CLOSE)) {
                return NONE;
            }
            int word = nodes.make(AGE + place, 0);
            nodes.append(word, one, 1);
            nodes.append(word, other, 1);
            return word;
        }

        private int readIf(Nodes nodes, int open) {
            if (!enter(TOKEN_IF, open)) {
                return NONE;
            }
            words |= WORD_IF;
            int one = readSum(nodes, open + 1);
            int comparison = comparisonOf(tape.sort);
            if (one == NONE || comparison == NONE) {
                return one == NONE ? NONE : fail(CANT_STAND);
            }
            tape.advance();
            int other = readSum(nodes, open + 1);
            int then = other != NONE && expect(SIGN_QUERY) ? readSum(nodes, open + 1) : NONE;
            int otherwise = then != NONE && expect(SIGN_COLON) ? readSum(nodes, open + 1) : NONE;
            if (otherwise == NONE || !expect(TOKEN_LAST)) {
                return NONE;
            }
            int choice = nodes.make(IF, comparison);
            nodes.append(choice, one, 1);
            nodes.append(choice, other, 1);
            nodes.append(choice, then, 1);
            nodes.append(choice, otherwise, 1);
            return choice;
        }

        private static int comparisonOf(int sort) {
            switch (sort) {
                case SIGN_BELOW:
                    return BELOW;
                case SIGN_AT_MOST:
                    return AT_MOST;
                case SIGN_ABOVE:
                    return ABOVE;
                case SIGN_AT_LEAST:
                    return AT_LEAST;
                case SIGN_EQUAL:
                    return EQUAL;
                case SIGN_UNLIKE:
                    return UNLIKE;
                default:
                    return NONE;
            }
        }
    }

    /** The questions told, how each is said by the equalities told, and who is alike to whom by it. */
    private static final class Questions {
        private final Nodes[] trees = new Nodes[MOST_QUESTIONS];
        private final int[] starts = new int[MOST_QUESTIONS];
        private final int[] roots = new int[MOST_QUESTIONS];
        final int[] leaves = new int[MOST_QUESTIONS];
        final int[] depths = new int[MOST_QUESTIONS];
        final int[] words = new int[MOST_QUESTIONS];
        final int[] greatest = new int[MOST_QUESTIONS];
        /** What each comes to, as it was last worked out. */
        final int[] answers = new int[MOST_QUESTIONS];
        int count;
        int equalityBits;
        private final Nodes[] said = new Nodes[MOST_QUESTIONS];
        private final int[] saidRoots = new int[MOST_QUESTIONS];
        private final int[] lowestAlike = new int[MOST_QUESTIONS];
        /** How many are said as the equalities now are. */
        private int saidNow;
        private final Nodes spareOne = new Nodes();
        private final Nodes spareOther = new Nodes();

        Questions() {
            for (int i = 0; i < MOST_QUESTIONS; i++) {
                said[i] = new Nodes();
            }
        }

        boolean add(Script script, int clause) {
            if (count >= MOST_QUESTIONS) {
                return false;
            }
            trees[count] = script.nodes;
            starts[count] = script.partOf(clause, 0);
            roots[count] = script.partOf(clause, 1);
            leaves[count] = script.partOf(clause, 2);
            depths[count] = script.partOf(clause, 3);
            words[count] = script.partOf(clause, 4);
            greatest[count] = script.partOf(clause, 5);
            count++;
            return true;
        }

        void setEqualities(int bits) {
            equalityBits = bits;
            saidNow = 0;
        }

        int answerIn(int question, World world, int[] things) {
            Nodes tree = trees[question];
            return tree == null ? 0 : world.workOut(tree, starts[question], roots[question], things);
        }

        void workAll(World world) {
            for (int i = 0; i < count; i++) {
                answers[i] = answerIn(i, world, world.numbers);
            }
        }

        boolean areAlike(int one, int other) {
            return lowestAlike[one] == lowestAlike[other];
        }

        /** Those that are alike to a question, itself too, in bits. */
        int allAlike(int question) {
            int all = 0;
            for (int i = 0; i < count; i++) {
                if (areAlike(i, question)) {
                    all |= 1 << i;
                }
            }
            return all;
        }

        void sayAll() {
            for (int i = saidNow; i < count; i++) {
                said[i].size = 0;
                saidRoots[i] = trees[i] == null ? NONE : said[i].say(trees[i], roots[i], equalityBits, 0);
                lowestAlike[i] = i;
                for (int j = 0; j < i && lowestAlike[i] == i; j++) {
                    if (Nodes.orderOf(said[j], saidRoots[j], said[i], saidRoots[i], 0) == 0) {
                        lowestAlike[i] = j;
                    }
                }
            }
            saidNow = count;
        }

        boolean areAlikeByAll(int one, int other) {
            if (trees[one] == null || trees[other] == null) {
                return false;
            }
            spareOne.size = 0;
            spareOther.size = 0;
            int first = spareOne.say(trees[one], roots[one], ALL_EQUALITIES, 0);
            int second = spareOther.say(trees[other], roots[other], ALL_EQUALITIES, 0);
            return Nodes.orderOf(spareOne, first, spareOther, second, 0) == 0;
        }

        void save(Row row) {
            row.put(count);
            row.put(equalityBits);
        }

        void restore(Row row) {
            count = Math.max(0, Math.min(row.take(), MOST_QUESTIONS));
            setEqualities(row.take());
        }
    }

    /** The pupils, the answer of the day, and who has asked. */
    private static final class School {
        final int[] ages = new int[MOST_PUPILS];
        final int[] words = new int[MOST_PUPILS];
        final int[] numbers = new int[MOST_PUPILS];
        private final int[] depths = new int[MOST_PUPILS];
        final int[] leaves = new int[MOST_PUPILS];
        int pupils;
        int theAnswer;
        final int[] stepPupils = new int[MOST_PUPILS];
        final int[] stepQuestions = new int[MOST_PUPILS];
        int steps;

        int addPupil(int age, int known, int number, int depth, int most) {
            if (pupils >= MOST_PUPILS) {
                return NONE;
            }
            ages[pupils] = age;
            words[pupils] = known;
            numbers[pupils] = number;
            depths[pupils] = depth;
            leaves[pupils] = most;
            pupils++;
            return pupils - 1;
        }

        int lacking(int pupil, int question, Questions questions) {
            int lacking = questions.words[question] & ~words[pupil];
            if (questions.greatest[question] > numbers[pupil]) {
                lacking |= 1 << 15;
            }
            if (questions.depths[question] > depths[pupil]) {
                lacking |= 1 << 16;
            }
            if (questions.leaves[question] > leaves[pupil]) {
                lacking |= 1 << 17;
            }
            return lacking;
        }

        private boolean hasAsked(int pupil) {
            for (int i = 0; i < steps; i++) {
                if (stepPupils[i] == pupil) {
                    return true;
                }
            }
            return false;
        }

        int barring(int question, Questions questions) {
            int lowest = NONE;
            for (int i = 0; i < steps; i++) {
                int one = stepQuestions[i];
                if ((lowest == NONE || one < lowest) && questions.areAlike(one, question)) {
                    lowest = one;
                }
            }
            return lowest;
        }

        int hindrance(int pupil, int question, Questions questions) {
            if (hasAsked(pupil)) {
                return 1;
            }
            if (lacking(pupil, question, questions) != 0) {
                return 2;
            }
            if (questions.answers[question] != theAnswer) {
                return 3;
            }
            return barring(question, questions) != NONE ? 4 : 0;
        }

        void addStep(int pupil, int question) {
            if (steps < MOST_PUPILS) {
                stepPupils[steps] = pupil;
                stepQuestions[steps] = question;
                steps++;
            }
        }

        private int lowestNow(int pupil, Questions questions) {
            for (int q = 0; q < questions.count; q++) {
                if (hindrance(pupil, q, questions) == 0) {
                    return q;
                }
            }
            return NONE;
        }

        int shortestNow(int pupil, Questions questions) {
            int best = NONE;
            for (int q = 0; q < questions.count; q++) {
                boolean shorter = best == NONE || questions.leaves[q] < questions.leaves[best];
                if (shorter && hindrance(pupil, q, questions) == 0) {
                    best = q;
                }
            }
            return best;
        }

        private int whoHasNotAsked() {
            int waiting = 0;
            for (int p = 0; p < pupils; p++) {
                if (!hasAsked(p)) {
                    waiting |= 1 << p;
                }
            }
            return waiting;
        }

        private int youngest(int waiting) {
            int best = NONE;
            for (int p = 0; p < pupils; p++) {
                if ((waiting >> p & 1) != 0 && (best == NONE || ages[p] < ages[best])) {
                    best = p;
                }
            }
            return best;
        }

        private int drawn(int waiting, int draw) {
            int ahead = Math.floorMod(draw, Math.max(1, Integer.bitCount(waiting)));
            for (int p = 0; p < pupils; p++) {
                if ((waiting >> p & 1) != 0) {
                    if (ahead == 0) {
                        return p;
                    }
                    ahead--;
                }
            }
            return NONE;
        }

        int holdMorning(int seed, Questions questions) {
            int before = steps;
            int waiting = whoHasNotAsked();
            int draw = seed * 3 + 7;
            for (int turn = 0; turn < pupils && waiting != 0; turn++) {
                int pupil = seed == NONE ? youngest(waiting) : drawn(waiting, draw);
                if (pupil == NONE) {
                    break;
                }
                draw = (draw * 131 + 89) % 30011;
                waiting &= ~(1 << pupil);
                int question = lowestNow(pupil, questions);
                if (question != NONE) {
                    addStep(pupil, question);
                }
            }
            return steps - before;
        }

        int firstPassedOver(Questions questions) {
            int before = steps;
            int waiting = whoHasNotAsked();
            int found = NONE;
            for (int turn = 0; turn < pupils && waiting != 0 && found == NONE; turn++) {
                int pupil = youngest(waiting);
                if (pupil == NONE) {
                    break;
                }
                waiting &= ~(1 << pupil);
                int question = lowestNow(pupil, questions);
                if (question == NONE) {
                    found = pupil;
                } else {
                    addStep(pupil, question);
                }
            }
            steps = before;
            return found;
        }

        void save(Row row) {
            row.put(pupils);
            row.put(theAnswer);
            row.put(steps);
            row.putAll(stepPupils);
            row.putAll(stepQuestions);
        }

        void restore(Row row) {
            pupils = Math.max(0, Math.min(row.take(), MOST_PUPILS));
            theAnswer = row.take();
            steps = Math.max(0, Math.min(row.take(), MOST_PUPILS));
            row.takeAll(stepPupils);
            row.takeAll(stepQuestions);
        }
    }

    /** What the pupils could do from nobody having asked: orders, who shuts them, games. */
    private static final class Plans {
        /** By pupil, in bits: the questions that one can ask and that come to the answer. */
        private final int[] open = new int[MOST_PUPILS];
        /** By question, in bits: those that are alike to it. */
        private final int[] like = new int[MOST_QUESTIONS];
        /** By pupils in bits: whether they have an order. */
        private final boolean[] ordered = new boolean[1 << MOST_PUPILS];
        final int[] order = new int[MOST_PUPILS];
        private int pupils;
        private int questions;

        void look(School school, Questions asked) {
            pupils = school.pupils;
            questions = asked.count;
            Arrays.fill(open, 0);
            for (int q = 0; q < questions; q++) {
                like[q] = asked.allAlike(q);
                if (asked.answers[q] == school.theAnswer) {
                    openTo(q, school, asked);
                }
            }
        }

        private void openTo(int question, School school, Questions asked) {
            for (int p = 0; p < pupils; p++) {
                if (school.lacking(p, question, asked) == 0) {
                    open[p] |= 1 << question;
                }
            }
        }

        private int lowestOf(int bits) {
            for (int q = 0; q < questions; q++) {
                if ((bits >> q & 1) != 0) {
                    return q;
                }
            }
            return NONE;
        }

        /**
         * Marks each set of pupils that has an order. Who can't ask at one time can't later either,
         * for more and more is barred: so nobody who is passed over need be thought of.
         */
        private void explore(int who, int barred, int depth) {
            ordered[who & (ordered.length - 1)] = true;
            for (int p = 0; p < pupils && depth < pupils; p++) {
                int question = lowestOf(open[p] & ~barred);
                if ((who >> p & 1) == 0 && question != NONE) {
                    explore(who | 1 << p, barred | like[question], depth + 1);
                }
            }
        }

        private void exploreAll() {
            for (int i = 0; i < ordered.length; i++) {
                ordered[i] = false;
            }
            explore(0, 0, 0);
        }

        int mostWhoCan() {
            exploreAll();
            int most = 0;
            for (int who = 0; who < ordered.length; who++) {
                if (ordered[who]) {
                    most = Math.max(most, Integer.bitCount(who));
                }
            }
            return most;
        }

        int fewestToShut() {
            exploreAll();
            int all = (1 << pupils) - 1;
            int best = all;
            for (int out = 0; out <= all; out++) {
                if (ordered[all & ~out] && Integer.bitCount(out) < Integer.bitCount(best)) {
                    best = out;
                }
            }
            return best;
        }

        boolean findOrder() {
            return orderFrom(0, 0, 0);
        }

        private boolean orderFrom(int who, int barred, int depth) {
            if (depth >= pupils) {
                return true;
            }
            for (int p = 0; p < pupils; p++) {
                int question = lowestOf(open[p] & ~barred);
                if ((who >> p & 1) == 0 && question != NONE) {
                    order[depth] = p;
                    if (orderFrom(who | 1 << p, barred | like[question], depth + 1)) {
                        return true;
                    }
                }
            }
            return false;
        }

        /** The lowest question with which one who begins wins; NONE: the other one wins. */
        int winningStart(int begins, int other) {
            for (int q = 0; q < questions; q++) {
                if ((open[begins] >> q & 1) != 0 && !winsFrom(open[other] & ~like[q], open[begins] & ~like[q])) {
                    return q;
                }
            }
            return NONE;
        }

        /** Whether one who is to ask wins: but for whose they are, the questions not alike are worth the same. */
        private boolean winsFrom(int mine, int yours) {
            int onlyMine = 0;
            int onlyYours = 0;
            int ours = 0;
            for (int q = 0; q < questions; q++) {
                if (lowestOf(like[q]) == q) {
                    boolean forMe = (mine & like[q]) != 0;
                    boolean forYou = (yours & like[q]) != 0;
                    ours += forMe && forYou ? 1 : 0;
                    onlyMine += forMe && !forYou ? 1 : 0;
                    onlyYours += forYou && !forMe ? 1 : 0;
                }
            }
            return moverWins(onlyMine, onlyYours, ours, 0);
        }

        private static boolean moverWins(int mine, int yours, int ours, int depth) {
            if (depth > MOST_QUESTIONS) {
                return false;
            }
            if (ours > 0 && !moverWins(yours, mine, ours - 1, depth + 1)) {
                return true;
            }
            return mine > 0 && !moverWins(yours, mine - 1, ours, depth + 1);
        }
    }

    /** How many trees there are to a value, counted when they are asked for and kept while the things stay. */
    private static final class Trees {
        /** By m, leaves and value, one behind the other: 13 to the 5th trees in 14 shapes of 81 signs fit an int. */
        private final int[] counts = new int[(GREATEST_M + 1) * TREE_LEAVES * VALUES];
        /** By m: up to how many leaves they are counted. */
        private final int[] ready = new int[GREATEST_M + 1];
        private final int[] things = new int[THINGS];
        private final int[] there = new int[VALUES];
        private final int[] written = new int[2 * TREE_LEAVES - 1];

        /** Counts what isn't yet counted of trees of up to n leaves. */
        void prepare(int m, int n, int[] numbers) {
            for (int t = 0; t < THINGS; t++) {
                if (things[t] != numbers[t]) {
                    things[t] = numbers[t];
                    Arrays.fill(ready, 0);
                }
            }
            for (int k = ready[m] + 1; k <= n; k++) {
                clear(m, k);
                if (k == 1) {
                    countLeaves(m);
                }
                for (int part = 1; part <= k - part; part++) {
                    join(m, part, k - part);
                }
                ready[m] = k;
            }
        }

        private static int placeOf(int m, int n, int v) {
            return (m * TREE_LEAVES + n - 1) * VALUES + v + WIDEST;
        }

        private void clear(int m, int n) {
            int zero = placeOf(m, n, 0);
            for (int v = -WIDEST; v <= WIDEST; v++) {
                counts[zero + v] = 0;
            }
        }

        private void countLeaves(int m) {
            for (int number = 1; number <= m; number++) {
                counts[placeOf(m, 1, number)]++;
            }
            for (int t = 0; t < THINGS; t++) {
                counts[placeOf(m, 1, things[t])]++;
            }
        }

        /** Joins all trees of so many leaves with all of so many others, each on the left and on the right side. */
        private void join(int m, int one, int other) {
            int zero = placeOf(m, other, 0);
            int many = 0;
            for (int v = -WIDEST; v <= WIDEST; v++) {
                if (counts[zero + v] != 0) {
                    there[many] = v;
                    many++;
                }
            }
            for (int v = -WIDEST; v <= WIDEST; v++) {
                int count = counts[placeOf(m, one, v)];
                if (count != 0) {
                    joinValue(v, count, zero, many, placeOf(m, one + other, 0), one != other);
                }
            }
        }

        /** Twice: the two have unlike numbers of leaves, so that the same two come in the other order as well. */
        private void joinValue(int x, int count, int zero, int many, int into, boolean twice) {
            for (int i = 0; i < many; i++) {
                int y = there[i];
                int pairs = count * counts[zero + y];
                int both = twice ? 2 * pairs : pairs;
                if (x + y >= -WIDEST && x + y <= WIDEST) {
                    counts[into + x + y] += both;
                }
                if (x * y >= -WIDEST && x * y <= WIDEST) {
                    counts[into + x * y] += both;
                }
                if (x - y >= -WIDEST && x - y <= WIDEST) {
                    counts[into + x - y] += pairs;
                    if (twice) {
                        counts[into + y - x] += pairs;
                    }
                }
            }
        }

        int countOf(int m, int n, int v) {
            boolean told = within(m, 0, GREATEST_M) && within(n, 1, TREE_LEAVES) && within(v, -WIDEST, WIDEST);
            return told ? counts[placeOf(m, n, v)] : 0;
        }

        int fewestLeaves(int m, int v, int most, int[] numbers) {
            for (int n = 1; n <= most; n++) {
                prepare(m, n, numbers);
                if (countOf(m, n, v) != 0) {
                    return n;
                }
            }
            return NONE;
        }

        int rarestOf(int m, int n, int low, int high) {
            int best = NO_VALUE;
            int least = 0;
            for (int v = low; v <= high; v++) {
                int count = countOf(m, n, v);
                if (count != 0 && (best == NO_VALUE || count < least)) {
                    best = v;
                    least = count;
                }
            }
            return best;
        }

        int longestOf(int m, int most, int low, int high, int[] numbers) {
            int best = NO_VALUE;
            int longest = 0;
            for (int v = low; v <= high; v++) {
                int n = fewestLeaves(m, v, most, numbers);
                if (n > longest) {
                    best = v;
                    longest = n;
                }
            }
            return best;
        }

        int signAt(int m, int n, int v, int i) {
            write(m, n, v, 0);
            return i >= 0 && i < written.length ? written[i] : NONE;
        }

        private void put(int at, int sign) {
            if (at >= 0 && at < written.length) {
                written[at] = sign;
            }
        }

        /** Writes the first tree of n leaves that has a value: the place behind it. */
        private int write(int m, int n, int v, int at) {
            if (n > TREE_LEAVES) {
                return at;
            }
            if (n <= 1) {
                put(at, leafOf(m, v));
                return at + 1;
            }
            for (int part = 1; part < n; part++) {
                for (int sign = 0; sign < 3; sign++) {
                    for (int x = -WIDEST; x <= WIDEST; x++) {
                        int y = countOf(m, part, x) == 0 ? NO_VALUE : partnerOf(x, sign, v, m, n - part);
                        if (y != NO_VALUE) {
                            put(at, FIRST_TREE_SIGN + sign);
                            return write(m, n - part, y, write(m, part, x, at + 1));
                        }
                    }
                }
            }
            return at;
        }

        private int leafOf(int m, int v) {
            if (v >= 1 && v <= m) {
                return v;
            }
            for (int t = 0; t < THINGS; t++) {
                if (things[t] == v) {
                    return FIRST_TREE_THING + t;
                }
            }
            return NONE;
        }

        /** The least value of trees of n leaves that comes to v with x on its left. */
        private int partnerOf(int x, int sign, int v, int m, int n) {
            int y = NO_VALUE;
            if (sign == 0) {
                y = v - x;
            } else if (sign == 1) {
                y = x - v;
            } else if (x == 0) {
                return v == 0 ? leastOf(m, n) : NO_VALUE;
            } else if (v % x == 0) {
                y = v / x;
            }
            return countOf(m, n, y) != 0 ? y : NO_VALUE;
        }

        private int leastOf(int m, int n) {
            for (int v = -WIDEST; v <= WIDEST; v++) {
                if (countOf(m, n, v) != 0) {
                    return v;
                }
            }
            return NO_VALUE;
        }
    }

    /** What was heard and told, and the worlds looked through for it. */
    private static final class Hearsay {
        private static final int DIGIT = 9;
        private static final int MOST_WORLDS = 10000;

        private final int[] heardPupils = new int[MOST_HEARD];
        private final int[] heardQuestions = new int[MOST_HEARD];
        int heard;
        private final int[] unlikeQuestions = new int[MOST_HEARD];
        private int unlike;
        private final int[] toldQuestions = new int[MOST_TOLD];
        private final int[] toldAnswers = new int[MOST_TOLD];
        int told;
        /** The things of the world that is looked at. */
        final int[] numbers = new int[THINGS];
        final int[] found = new int[MOST_WORLDS];
        private int foundCount;
        private boolean foundForHeard;
        private int foundForVersion;

        void forgetHeard() {
            heard = 0;
            foundForHeard = false;
        }

        int addHeard(int pupil, int question) {
            if (heard >= MOST_HEARD) {
                return NOT_TOLD;
            }
            heardPupils[heard] = pupil;
            heardQuestions[heard] = question;
            heard++;
            foundForHeard = false;
            return heard;
        }

        int addTold(int question, int answer) {
            if (told >= MOST_TOLD) {
                return NOT_TOLD;
            }
            toldQuestions[told] = question;
            toldAnswers[told] = answer;
            told++;
            return told;
        }

        int wordsHeard(int pupil, Questions questions) {
            int words = 0;
            for (int i = 0; i < heard; i++) {
                if (heardPupils[i] == pupil) {
                    words |= questions.words[heardQuestions[i]];
                }
            }
            return words;
        }

        int liesIn(Questions questions) {
            int lying = 0;
            for (int i = 0; i < told; i++) {
                if (questions.answers[toldQuestions[i]] != toldAnswers[i]) {
                    lying |= 1 << i;
                }
            }
            return lying;
        }

        int firstClash(Questions questions) {
            for (int i = 0; i < told; i++) {
                for (int j = 0; j < i; j++) {
                    boolean same = questions.areAlike(toldQuestions[j], toldQuestions[i]);
                    if (same && toldAnswers[j] != toldAnswers[i]) {
                        return MOST_TOLD * j + i;
                    }
                }
            }
            return NONE;
        }

        boolean findParting(int one, int other, Questions questions, World world) {
            if (one == other) {
                return false;
            }
            int words = questions.words[one] | questions.words[other];
            Arrays.fill(numbers, 0);
            for (int i = 0; i < MOST_WORLDS; i++) {
                if (questions.answerIn(one, world, numbers) != questions.answerIn(other, world, numbers)) {
                    return true;
                }
                if (!nextWorld(words)) {
                    return false;
                }
            }
            return false;
        }

        /** Things that stand in no question stay 0: no answer hangs on them, and 0 comes first. */
        private boolean nextWorld(int words) {
            for (int t = THINGS - 1; t >= 0; t--) {
                if ((words >> t & 1) != 0) {
                    if (numbers[t] < DIGIT) {
                        numbers[t]++;
                        return true;
                    }
                    numbers[t] = 0;
                }
            }
            return false;
        }

        int countWorlds(Questions questions, World world) {
            if (foundForHeard && foundForVersion == world.version) {
                return foundCount;
            }
            int words = 0;
            unlike = 0;
            for (int i = 0; i < heard; i++) {
                words |= questions.words[heardQuestions[i]];
                addUnlike(heardQuestions[i]);
            }
            Arrays.fill(numbers, 0);
            foundCount = 0;
            boolean more = true;
            for (int i = 0; i < MOST_WORLDS && more; i++) {
                if (allAnswerAlike(questions, world)) {
                    found[foundCount] = numbers[0] * 1000 + numbers[1] * 100 + numbers[2] * 10 + numbers[3];
                    foundCount++;
                }
                more = nextWorld(words);
            }
            foundForHeard = true;
            foundForVersion = world.version;
            return foundCount;
        }

        /** What was heard twice need not be worked out twice. */
        private void addUnlike(int question) {
            for (int i = 0; i < unlike; i++) {
                if (unlikeQuestions[i] == question) {
                    return;
                }
            }
            if (unlike < MOST_HEARD) {
                unlikeQuestions[unlike] = question;
                unlike++;
            }
        }

        private boolean allAnswerAlike(Questions questions, World world) {
            if (unlike < 2) {
                return true;
            }
            int first = questions.answerIn(unlikeQuestions[0], world, numbers);
            for (int i = 1; i < unlike; i++) {
                if (questions.answerIn(unlikeQuestions[i], world, numbers) != first) {
                    return false;
                }
            }
            return true;
        }

        void save(Row row) {
            row.put(heard);
            row.putAll(heardPupils);
            row.putAll(heardQuestions);
            row.put(told);
            row.putAll(toldQuestions);
            row.putAll(toldAnswers);
        }

        void restore(Row row) {
            heard = Math.max(0, Math.min(row.take(), MOST_HEARD));
            row.takeAll(heardPupils);
            row.takeAll(heardQuestions);
            told = Math.max(0, Math.min(row.take(), MOST_TOLD));
            row.takeAll(toldQuestions);
            row.takeAll(toldAnswers);
            foundForHeard = false;
        }
    }
}
