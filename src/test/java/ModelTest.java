import java.util.Random;

/** Runs of 512 calls, the same at each start, on the program and on the model: every answer is compared. */
public final class ModelTest {
    private static final int RUNS = 4000;
    private static final int CALLS = 512;
    private static final String[] WORDS = {"go", "take", "drop", "put", "open", "clos", "n", "s", "east", "w",
        "lamp", "ches", "key", "a", "b", "c", "d", "e", "the", "in", "z", "zz", "zzz", "zzzz", "y", "yy"};
    private static final int[] MEANINGS = {0, 1, 2, 3, 4, 5, 10, 11, 12, 13, 20, 21, 22, 23, 24, 25, 26, 27, 30, 30};

    private final Due due;
    private final Random random;
    private final StoryWorld world = new StoryWorld();
    private final ModelWorld model = new ModelWorld();
    private int calls = 0;

    private ModelTest(Due due, long seed) {
        this.due = due;
        this.random = new Random(seed);
    }

    public static void main(String[] args) {
        Due due = new Due();
        for (int seed = 0; seed < RUNS; seed++) {
            new ModelTest(due, seed).run(seed);
        }
        due.end();
    }

    private void run(int seed) {
        if (seed % 4 != 0) {
            prepare();
        }
        if (seed % 4 == 2) {
            addSayingRules();
        }
        if (seed % 4 == 3) {
            fillHandsAndBoxes();
        }
        while (calls < CALLS) {
            step();
        }
    }

    /** A world with words, exits and things, so that commands come far. */
    private void prepare() {
        for (int i = 0; i < MEANINGS.length; i++) {
            word(Story.letters(WORDS[i]), MEANINGS[i]);
        }
        for (int room = 0; room < 6; room++) {
            link(room, random.nextInt(4), random.nextInt(6));
        }
        for (int t = 0; t < 8; t++) {
            thing(t, random.nextInt(16), random.nextInt(16));
        }
    }

    /** Rules up to the limit or near it, and numbers said past those that are kept. */
    private void addSayingRules() {
        for (int i = 10 + random.nextInt(6); i > 0; i--) {
            rule(random.nextInt(6), -1, 0, Story.say(random.nextInt(256)));
        }
    }

    /** Two open boxes at hand, and all else in them or held, so that things are put where it is full. */
    private void fillHandsAndBoxes() {
        for (int t = 0; t < 8; t++) {
            thing(t, Story.OPEN_BOX, 0);
        }
        for (int t = 0; t < 6; t++) {
            int[] places = {Story.HELD, Story.in(6), Story.in(7)};
            thing(t, 0, places[random.nextInt(3)]);
        }
        for (int i = 0; i < 60; i++) {
            command(1 + random.nextInt(3), random.nextInt(6), 6 + random.nextInt(2));
        }
    }

    /** Most numbers lie from low to high, some a little or far outside. */
    private int around(int low, int high) {
        int choice = random.nextInt(40);
        if (choice == 0) {
            return random.nextInt();
        }
        if (choice == 1) {
            return low - 1 - random.nextInt(2);
        }
        if (choice == 2) {
            return high + 1 + random.nextInt(2);
        }
        return low + random.nextInt(high - low + 1);
    }

    private void step() {
        switch (random.nextInt(20)) {
            case 0 -> dark(around(0, 5), random.nextBoolean());
            case 1 -> link(around(0, 5), around(0, 3), around(-1, 5));
            case 2, 3 -> thing(around(0, 7), around(0, 15), around(0, 15));
            case 4 -> word(someLetters(), around(0, 30));
            case 5 -> anyRule();
            case 6 -> unrule();
            case 7, 8, 9 -> typeLine();
            case 10 -> type(around(90, 125));
            case 11, 12, 13, 14, 15, 16 -> command(around(0, 5), around(0, 7), around(0, 7));
            default -> ask();
        }
    }

    private int someLetters() {
        return random.nextInt(3) == 0 ? around(1, 531440)
                : Story.letters(WORDS[random.nextInt(WORDS.length)]);
    }

    private void anyRule() {
        int verb = around(0, 5);
        int subject = around(-1, 7);
        int condition = random.nextInt(3) == 0 ? 0 : around(0, 1023);
        int effect = random.nextInt(3) == 0 ? around(0, 2047) : around(0, 1023);
        rule(verb, subject, condition, effect);
    }

    private void rule(int verb, int subject, int condition, int effect) {
        is("rule", model.rule(verb, subject, condition, effect), world.rule(verb, subject, condition, effect));
    }

    private void unrule() {
        if (random.nextInt(3) == 0) {
            is("unrule", model.unrule(), world.unrule());
        }
    }

    private void typeLine() {
        StringBuilder line = new StringBuilder();
        switch (random.nextInt(5)) {
            case 0 -> line.append("put ").append(thingWord()).append(" in ").append(thingWord());
            case 1 -> line.append(WORDS[6 + random.nextInt(4)]);
            case 2 -> line.append("go ").append(WORDS[6 + random.nextInt(4)]);
            case 3 -> line.append(WORDS[1 + random.nextInt(5)]).append(" the ").append(thingWord());
            default -> {
                for (int i = random.nextInt(5); i > 0; i--) {
                    line.append(WORDS[random.nextInt(WORDS.length)]).append(" ".repeat(random.nextInt(3)));
                }
            }
        }
        for (int i = 0; i < line.length(); i++) {
            type(line.charAt(i));
        }
        if (random.nextInt(8) != 0) {
            is("enter", model.enter(), world.enter());
        }
    }

    private static final String[] THING_WORDS = {"lamps", "chest", "key", "a", "b", "c", "d", "e"};

    private String thingWord() {
        return THING_WORDS[random.nextInt(8)];
    }

    private void ask() {
        int n = around(0, 7);
        is("place", model.place(n), world.place(n));
        is("traits", model.traits(n), world.traits(n));
        is("visible", model.visible(n) ? 1 : 0, world.visible(n) ? 1 : 0);
        is("player", model.player(), world.player());
        is("counter", model.counter(n), world.counter(n));
        is("said", model.said(), world.said());
        int k = around(0, 41);
        is("saying", model.saying(k), world.saying(k));
    }

    private void dark(int room, boolean on) {
        is("dark", model.dark(room, on) ? 1 : 0, world.dark(room, on) ? 1 : 0);
    }

    private void link(int room, int direction, int to) {
        is("link", model.link(room, direction, to) ? 1 : 0, world.link(room, direction, to) ? 1 : 0);
    }

    private void thing(int t, int traits, int place) {
        is("thing", model.thing(t, traits, place) ? 1 : 0, world.thing(t, traits, place) ? 1 : 0);
    }

    private void word(int letters, int meaning) {
        is("word", model.word(letters, meaning), world.word(letters, meaning));
    }

    private void type(int c) {
        is("type", model.type(c) ? 1 : 0, world.type(c) ? 1 : 0);
    }

    private void command(int verb, int x, int y) {
        is("command", model.command(verb, x, y), world.command(verb, x, y));
    }

    private void is(String call, int answerDue, int answer) {
        calls++;
        // A step may end behind the last call that anything is promised of.
        if (calls <= CALLS) {
            due.is(call + ", call " + calls, answerDue, answer);
        }
    }
}
